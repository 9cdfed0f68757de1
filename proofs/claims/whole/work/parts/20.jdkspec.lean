-- what the methods of the library answer
def bc (s : Nat) : Nat := cN (fun p => s.testBit p) 10
theorem bc_le (s : Nat) : bc s ≤ 10 := cN_le _ _
def bc_w (v0 : Int32) : Int32 :=
  let a := v0 - ((mm_ushr v0 (nI 1)) &&& (nI 1431655765))
  let b := (a &&& (nI 858993459)) + ((mm_ushr a (nI 2)) &&& (nI 858993459))
  let c := (b + (mm_ushr b (nI 4))) &&& (nI 252645135)
  let e := c + mm_ushr c (nI 8)
  (e + mm_ushr e (nI 16)) &&& nI 63
theorem bc_all : ∀ s, s < 1024 → bc_w (nI s) = nI (bc s) := by decide +kernel
theorem s_bitCount {d sn s : Nat} {m : mm_Mem} {P : Int32 → mm_Mem → Prop} (hs : s < 1024) (h : P (nI (bc s)) m) : mm_sp (d + 1) sn kJ6_bitCount_0f7a4 [.int (nI s)] m (qI P) := by
  rw [← bc_all s hs] at h
  exact v_J6_bitCount_0f7a4 h
