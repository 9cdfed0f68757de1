/** Counts the calls whose answer is not the one that is due, and prints them. */
final class Due {
    private final String test;
    private int wrong = 0;
    private int asked = 0;

    Due(String test) {
        this.test = test;
    }

    void is(String call, long got, long want) {
        asked++;
        if (got != want) {
            wrong++;
            System.out.println(test + ": " + call + " answered " + got + ", due is " + want);
        }
    }

    /** Feeds a text and has it read. */
    static int read(OrbitDesigns x, String text) {
        for (int i = 0; i < text.length(); i++) x.feed(text.charAt(i));
        return x.read();
    }

    /** A new object with n POINTS. */
    static OrbitDesigns of(int n) {
        OrbitDesigns x = new OrbitDesigns();
        x.points(n);
        return x;
    }

    void end() {
        System.out.println(test + ": " + asked + " answers looked at, " + wrong + " not as due");
        if (wrong != 0) System.exit(1);
    }
}
