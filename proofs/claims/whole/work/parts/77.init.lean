-- THE START: the constructors, step by step, up to the model's first 'starts'
def ini6 : Option mm_S := mm_st 30 (mm_call 30 2000) 232 6 (0, [some (.ref 0), none, none, none], [], mm_hc0)
def ini115 : Option mm_S := match ini6 with
  | some (_, _, _, h) => mm_st 30 (mm_call 30 2000) 151 109 (0, mm_pad (mm_nL 151) (mm_ex [.ref 82]), [], h)
  | none => none
def isL6 (la : mm_L) : Bool := match la with
  | [some (.ref a), some (.ref b), none, none] => a == 0 && b == 1
  | _ => false
def isS6 (st : List Value) : Bool := match st with
  | [.ref a, .ref b] => a == 82 && b == 82
  | _ => false
def isS115 (st : List Value) : Bool := match st with
  | [.int x, .ref b] => x == 5 && b == 82
  | _ => false
def isHR (h : mm_H) : Bool := (List.range 212).all fun a => match ((98, 0) :: mm_M1)[a]? with
  | some (c, q) => decide (12 ≤ c ∧ c ≤ 102) || (List.range q).all fun k => h.2.1 a k == mm_R0 a k
  | none => true
def isHI (f : Nat → Nat → Int32) (g : Nat → Nat → Int64) : Bool := f 2 0 == 5 && f 2 1 == 0 && f 2 2 == 0 && f 3 0 == 2 && f 3 1 == 0 && f 1 2 == 0 && f 44 0 == 0 && f 82 4 == 0 && f 82 16 == 0 && ((List.range 256).all fun s => f 4 s == 0) && (List.range 6).all fun k => f (47 + 2 * k) 0 == -1 && f (47 + 2 * k) 1 == 0 && f 202 k == -1 && f 203 k == 0 && (List.range 60).all fun i => g (48 + 2 * k) i == 0 && g (205 + k) i == 0
theorem ini6_ok : (ini6.any fun s => s.1 == 12 && isL6 s.2.1 && isS6 s.2.2.1) = true := by decide +kernel
theorem ini115_ok : (ini115.any fun s => s.1 == 207 && isS115 s.2.2.1 && s.2.2.2.1 == (98, 0) :: mm_M1 && isHR s.2.2.2 && isHI s.2.2.2.2.2.1 s.2.2.2.2.2.2) = true := by decide +kernel
