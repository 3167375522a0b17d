import java.util.function.Supplier;

/** Tells every answer that is not the one that is due, and how many were looked at. */
final class Due {
    static final int BEYOND = -1000001;
    static final int FULL = -1000002;
    static final int KIND = -1000003;
    static final int NONE = -1000004;
    static final int STATE = -1000005;
    static final int MISSING = -1000006;
    static final int SIZE = -1000007;

    private final String name;
    private int answers = 0;
    private int wrong = 0;

    Due(String name) {
        this.name = name;
    }

    void is(String what, long got, long want) {
        answers++;
        if (got != want) {
            wrong++;
            System.out.println(name + ": " + what + " answered " + got + ", due is " + want);
        }
    }

    void holds(String what, boolean isSo) {
        is(what, isSo ? 1 : 0, 1);
    }

    /** A call of which one number is chosen. */
    interface Call {
        long on(FogSchool x, int v);
    }

    /** The call is answered at both ends of its range, and BEYOND next to them and as far off as can be. */
    void range(String what, Supplier<FogSchool> made, int low, int top, Call call) {
        for (int v : new int[] {low, top}) {
            FogSchool x = made.get();
            int findings = x.status(0);
            holds(what + " " + v + " is not BEYOND", call.on(x, v) != BEYOND && x.status(0) == findings);
        }
        for (int v : new int[] {low - 1, top + 1, Integer.MIN_VALUE, Integer.MAX_VALUE}) {
            FogSchool x = made.get();
            int findings = x.status(0);
            is(what + " " + v, call.on(x, v), BEYOND);
            is(what + " " + v + " is counted", x.status(0), findings + 1);
        }
    }

    void end() {
        System.out.println(name + ": " + answers + " answers, " + wrong + " not as due");
        if (wrong > 0 || answers == 0) {
            System.exit(1);
        }
    }

    static void feedAll(FogSchool x, String text) {
        for (int i = 0; i < text.length(); i += 4) {
            int n = Math.min(4, text.length() - i);
            int bytes = 0;
            for (int b = 0; b < n; b++) {
                bytes = bytes << 8 | text.charAt(i + b);
            }
            x.feed(bytes, n);
        }
    }

    static int read(FogSchool x, String text) {
        feedAll(x, text);
        return x.text();
    }

    static FogSchool inFog(int thick) {
        FogSchool x = new FogSchool();
        for (int i = 0; i < 6; i++) {
            x.fog(i, thick);
        }
        return x;
    }

    static void sheetOf(FogSchool x, int s, int bits, int... numbers) {
        x.sheet(s, bits, numbers.length);
        for (int i = 0; i < numbers.length; i++) {
            x.write(s, i, numbers[i]);
        }
    }

    /** A new object that has read the texts, one after another. */
    static FogSchool told(String... texts) {
        FogSchool x = new FogSchool();
        for (String text : texts) {
            if (read(x, text) < 0) {
                throw new IllegalArgumentException(text);
            }
        }
        return x;
    }

    /** Three keepers and two children in a fog of 3 on each day. */
    static FogSchool some() {
        return told("fog 0 3;fog 1 3;fog 2 3;fog 3 3;fog 4 3;fog 5 3",
            "keeper at 4;drunk at 6;hum at 15;child at 5;child at 9 quick 9");
    }

    /** As many keepers and children as there may be, in the same fog. */
    static FogSchool most() {
        FogSchool x = some();
        read(x, "elder;poet at 3;echo at 8;head at 12;keeper at 15");
        read(x, "child;child at 3;child at 12;child at 15");
        return x;
    }
}
