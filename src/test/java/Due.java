/** Tells every answer that is not the one that is due, and how many were looked at. */
final class Due {
    static final int BEYOND = -1000001;
    static final int FULL = -1000002;
    static final int KIND = -1000003;
    static final int NONE = -1000004;
    static final int STATE = -1000005;
    static final int MISSING = -1000006;
    static final int SIZE = -1000007;

    private final String name;
    private int answers = 0;
    private int wrong = 0;

    Due(String name) {
        this.name = name;
    }

    void is(String what, long got, long want) {
        answers++;
        if (got != want) {
            wrong++;
            System.out.println(name + ": " + what + " answered " + got + ", due is " + want);
        }
    }

    void holds(String what, boolean isSo) {
        is(what, isSo ? 1 : 0, 1);
    }

    void end() {
        System.out.println(name + ": " + answers + " answers, " + wrong + " not as due");
        if (wrong > 0 || answers == 0) {
            System.exit(1);
        }
    }

    static void feedAll(FogSchool x, String text) {
        for (int i = 0; i < text.length(); i++) {
            x.feed(text.charAt(i), 1);
        }
    }

    static int read(FogSchool x, String text) {
        feedAll(x, text);
        return x.text();
    }

    static FogSchool inFog(int thick) {
        FogSchool x = new FogSchool();
        for (int i = 0; i < 6; i++) {
            x.fog(i, thick);
        }
        return x;
    }

    static void sheetOf(FogSchool x, int s, int bits, int... numbers) {
        x.sheet(s, bits, numbers.length);
        for (int i = 0; i < numbers.length; i++) {
            x.write(s, i, numbers[i]);
        }
    }
}
