import java.util.Map;
import java.util.TreeMap;

/**
 * An act changes what its words name and nothing else: it is called on a coast on which nearly everything is other than
 * at first and other than in the image that is kept, and all that can be seen is told by name ahead of it and behind it.
 */
public final class OnlyTest {
    private static final Due DUE = new Due("OnlyTest");

    private static final String[] OF_KEEPER = {"kind", "cell", "note", "loud", "tired", "silent"};
    private static final String[] OF_CHILD = {"cell", "quick", "learnt", "missed"};

    interface Act {
        long on(FogSchool x);
    }

    public static void main(String[] args) {
        coast();
        change();
        teach();
        days();
        autumns();
        tape();
        texts();
        spots();
        sheets();
        judge();
        images();
        otherObjects();
        DUE.end();
    }

    /** On DAY 2: an echo and a drunk that are silent, a head, two children, three sheets, an image of DAY 1. */
    private static FogSchool made() {
        FogSchool x = new FogSchool();
        x.go(1);
        Due.read(x, "fog 0 2;fog 1 3;fog 2 4;fog 3 5;fog 4 6;fog 5 7");
        Due.read(x, "keeper at 1;child at 2");
        x.hold(5, 0);
        x.seed(55);
        x.image();
        x.go(1);
        Due.read(x, "fog 0 8;fog 1 1;fog 2 5;fog 3 3;fog 4 4;fog 5 9");
        int[] echo = {5, 3, 4, 9, 31, 1};
        for (int what = 0; what <= 5; what++) {
            x.change(0, what, echo[what]);
        }
        Due.read(x, "head at 12 note 7 loud 2;drunk at 9 note 1 loud 13 silent");
        x.change(1, 4, 42);
        x.change(2, 4, 53);
        int[] child = {5, 7, 5, 10};
        for (int what = 0; what <= 3; what++) {
            x.teach(0, what, child[what]);
        }
        Due.read(x, "child at 14 quick 2 knows 96");
        x.teach(1, 3, 3);
        x.hold(0, 2);
        x.hold(5, 1);
        x.hold(9, 0);
        x.seed(987);
        Due.sheetOf(x, 0, 8, 1, 2, 3, 4, 5, 6);
        Due.sheetOf(x, 1, 16, 9, 8, 7, 6, 5, 4);
        Due.sheetOf(x, 2, 8, 7, 7, 7, 7, 7, 7, 7);
        Due.feedAll(x, "fog 0 0;fog 4 9");
        x.listed(6);
        x.load(3);
        return x;
    }

    private static void seeCoast(Map<String, Long> seen, String whose, FogSchool x) {
        seen.put(whose + "day", (long) x.count(0));
        seen.put(whose + "z", (long) x.count(6));
        for (int i = 0; i <= 5; i++) {
            seen.put(whose + "list " + i, (long) x.listed(i));
        }
        for (int k = 0; k < x.count(1); k++) {
            for (int what = 0; what <= 5; what++) {
                seen.put(whose + "keeper " + k + " " + OF_KEEPER[what], (long) x.of(k, what));
            }
        }
        for (int c = 0; c < x.count(2); c++) {
            for (int what = 0; what <= 3; what++) {
                seen.put(whose + "child " + c + " " + OF_CHILD[what], (long) x.ofChild(c, what));
            }
        }
        for (int spot = 0; spot <= 9; spot++) {
            seen.put(whose + "spot " + spot, (long) x.as(spot, 0));
        }
    }

    /** Its numbers show as fogs, how many they are by what may be copied, of how many bits by what is left of a number. */
    private static void seeSheet(Map<String, Long> seen, int s, FogSchool x) {
        if (x.load(s) == Due.MISSING) {
            seen.put("sheet " + s + " missing", 1L);
            return;
        }
        int came = x.load(s);
        for (int i = 0; i < came; i++) {
            seen.put("sheet " + s + " number " + i, (long) x.listed(i));
        }
        int size = 0;
        while (size < 40 && x.copy(s, 0, s, 0, size + 1) == size + 1) {
            size++;
        }
        seen.put("sheet " + s + " size", (long) size);
        x.write(s, 0, 256);
        boolean is8 = x.load(s) > 0;
        x.write(s, 0, 65536);
        boolean is16 = x.load(s) > 0;
        seen.put("sheet " + s + " bits", is8 ? 8L : is16 ? 16L : 32L);
    }

    /** Looking at it spoils it, so an object is looked at once. */
    private static Map<String, Long> see(FogSchool x) {
        Map<String, Long> seen = new TreeMap<>();
        for (int which = 0; which <= 6; which++) {
            seen.put("status " + which, (long) x.status(which));
        }
        seeCoast(seen, "", x);
        seen.put("tape", (long) x.count(5));
        seen.put("text", (long) x.text());
        seen.put("told 0", (long) x.listed(0));
        seen.put("told 4", (long) x.listed(4));
        for (int s = 0; s <= 3; s++) {
            seeSheet(seen, s, x);
        }
        if (x.undo() != Due.NONE) {
            seeCoast(seen, "kept ", x);
        }
        return seen;
    }

    private static void only(String what, long answer, Act act, Object... changes) {
        Map<String, Long> want = see(made());
        for (int i = 0; i + 1 < changes.length; i += 2) {
            want.put((String) changes[i], ((Number) changes[i + 1]).longValue());
        }
        check(what, answer, act, want);
    }

    private static void check(String what, long answer, Act act, Map<String, Long> want) {
        FogSchool x = made();
        DUE.is(what, act.on(x), answer);
        Map<String, Long> got = see(x);
        for (String name : want.keySet()) {
            DUE.is(what + ": " + name, got.getOrDefault(name, Long.MIN_VALUE), want.get(name));
        }
        for (String name : got.keySet()) {
            DUE.holds(what + ": there is no " + name, want.containsKey(name));
        }
    }

    private static void coast() {
        only("2: fog", 5, x -> x.fog(2, 0), "list 2", 0);
        only("4: keeper", 3, x -> x.keeper(3, 15), "keeper 3 kind", 3, "keeper 3 cell", 15, "keeper 3 note", 0,
            "keeper 3 loud", 6, "keeper 3 tired", 0, "keeper 3 silent", 0);
        only("5: child", 2, x -> x.child(0, 9), "child 2 cell", 0, "child 2 quick", 9, "child 2 learnt", 0, "child 2 missed", 0);
    }

    private static void change() {
        int[] head = {1, 12, 7, 2, 42, 0};
        int[] others = {3, 0, 11, 15, 99, 1};
        int[] echo = {5, 3, 4, 9, 31, 1};
        for (int what = 0; what <= 5; what++) {
            int w = what;
            String name = OF_KEEPER[what];
            only("7: a head's " + name, head[w], x -> x.change(1, w, others[w]), "keeper 1 " + name, others[w]);
            only("7: an echo's " + name, echo[w], x -> x.change(0, w, 0), "keeper 0 " + name, 0);
            only("7: the same " + name, echo[w], x -> x.change(0, w, echo[w]));
        }
    }

    private static void teach() {
        int[][] were = {{5, 7, 5, 10}, {14, 2, 96, 3}};
        int[] others = {15, 9, 4095, 4095};
        for (int child = 0; child <= 1; child++) {
            for (int what = 0; what <= 3; what++) {
                int c = child;
                int w = what;
                String name = "child " + child + " " + OF_CHILD[what];
                only("9: " + name, were[c][w], x -> x.teach(c, w, others[w]), name, others[w]);
                only("9: 0 for " + name, were[c][w], x -> x.teach(c, w, 0), name, 0);
            }
        }
    }

    /** Only the head gives a note, 7, to cells 10 to 14: child 1 hears it, and lacks the tempo, 5, by 3. */
    private static void days() {
        only("11: a day with fog", 4, x -> x.go(1), "day", 3, "keeper 1 note", 8, "keeper 1 tired", 43, "child 1 missed", 131);
        only("11: quick enough", 5, x -> {
            x.teach(1, 1, 5);
            x.teach(1, 3, 131);
            return x.go(1);
        }, "day", 3, "keeper 1 note", 8, "keeper 1 tired", 43, "child 1 quick", 5, "child 1 learnt", 224);
        only("11: a clear day", 4, x -> {
            x.fog(2, 0);
            return x.go(1);
        }, "day", 3, "list 2", 0, "keeper 0 tired", 28, "keeper 1 tired", 39, "keeper 2 tired", 50);
    }

    private static int seededAutumn(FogSchool x, int z) {
        x.seed(z);
        return x.autumn(1);
    }

    private static void autumns() {
        // The draws are 11288800 and 3447521: a clear day, and child 1 rows on.
        only("25: a clear day", 4, x -> seededAutumn(x, 61), "day", 3, "z", 882565507, "list 2", 0, "keeper 0 tired", 28,
            "keeper 1 tired", 39, "keeper 2 tired", 50, "child 1 cell", 15);
        // The draws are 7784894 and 2312246: a fog of 4, and there is no child 6.
        only("25: a day with fog", 4, x -> seededAutumn(x, 103), "day", 3, "z", 591935165, "list 2", 4,
            "keeper 1 note", 8, "keeper 1 tired", 43, "child 1 missed", 131);
        only("27: seed", 987, x -> x.seed(-5), "z", -5);
    }

    private static void tape() {
        only("28: a blank", 16, x -> x.feed(' ', 1), "tape", 16);
        only("28: a sign", 16, x -> x.feed(';', 1), "tape", 16, "text", -1 - 16, "told 0", 8, "told 4", 4);
        only("29: wipe", 15, x -> x.wipe(), "tape", 0, "text", -1, "told 0", 8, "told 4", 4);
    }

    private static int readAnew(FogSchool x, String text) {
        x.wipe();
        return Due.read(x, text);
    }

    private static void texts() {
        only("30: fogs", 2, x -> x.text(), "tape", 0, "text", -1, "list 0", 0, "list 4", 9);
        only("30: a keeper", 1, x -> readAnew(x, "poet at 8 loud 1"), "tape", 0, "text", -1, "told 0", 8, "told 4", 4,
            "keeper 3 kind", 3, "keeper 3 cell", 8, "keeper 3 note", 0, "keeper 3 loud", 1, "keeper 3 tired", 0,
            "keeper 3 silent", 0);
        only("30: a child", 1, x -> readAnew(x, "child knows 9"), "tape", 0, "text", -1, "told 0", 8, "told 4", 4,
            "child 2 cell", 0, "child 2 quick", 3, "child 2 learnt", 9, "child 2 missed", 0);
        only("30: a fault", -1 - 19, x -> readAnew(x, "hum;child;fog 0 0 ;x"), "tape", 0, "text", -1, "told 0", 8, "told 4", 4);
    }

    private static void spots() {
        only("31: a keeper", 1, x -> x.hold(3, 0), "spot 3", 0);
        only("31: another one", 1, x -> x.hold(0, 0), "spot 0", 0);
        only("31: the same", 1, x -> x.hold(5, 1));
        only("31: nothing", 1, x -> x.hold(9, -1), "spot 9", Due.MISSING);
        only("32: as", 0, x -> x.as(9, 5));
    }

    private static void sheets() {
        Map<String, Long> want = see(made());
        want.remove("sheet 3 missing");
        want.putAll(Map.of("sheet 3 size", 2L, "sheet 3 bits", 32L, "sheet 3 number 0", 0L, "sheet 3 number 1", 0L));
        check("33: a new one", 2, x -> x.sheet(3, 32, 2), want);
        want = see(made());
        for (int i = 0; i <= 5; i++) {
            want.remove("sheet 0 number " + i);
        }
        want.putAll(Map.of("sheet 0 size", 2L, "sheet 0 bits", 16L, "sheet 0 number 0", 0L, "sheet 0 number 1", 0L));
        check("33: another one", 2, x -> x.sheet(0, 16, 2), want);
        want = see(made());
        want.keySet().removeIf(name -> name.startsWith("sheet 1"));
        want.put("sheet 1 missing", 1L);
        check("33: none", 0, x -> x.sheet(1, 0, 2), want);

        for (int i = 0; i <= 5; i++) {
            int number = i;
            only("34: number " + i, 1, x -> x.write(1, number, 1), "sheet 1 number " + i, 1);
        }
        only("35: copy", 3, x -> x.copy(0, 1, 2, 2, 3), "sheet 2 number 2", 2, "sheet 2 number 3", 3, "sheet 2 number 4", 4);
        only("35: to itself", 2, x -> x.copy(1, 0, 1, 1, 2), "sheet 1 number 1", 9, "sheet 1 number 2", 8);
        only("36: six of seven", 6, x -> x.load(2), "list 0", 7, "list 1", 7, "list 2", 7, "list 3", 7, "list 4", 7, "list 5", 7);
        only("36: two", 2, x -> {
            x.write(0, 2, 10);
            int came = x.load(0);
            x.write(0, 2, 3);
            return came;
        }, "list 0", 1, "list 1", 2);
    }

    private static void judge() {
        only("37: not so", 1, x -> x.judge(0));
        Map<String, Long> want = see(made());
        want.remove("sheet 3 missing");
        want.putAll(Map.of("sheet 3 size", 1L, "sheet 3 bits", 32L, "sheet 3 number 0", 5L));
        check("37: so", 0, x -> {
            Due.sheetOf(x, 3, 32, 5);
            return x.judge(3);
        }, want);
    }

    private static void images() {
        Map<String, Long> coast = new TreeMap<>();
        seeCoast(coast, "", made());
        Map<String, Long> want = see(made());
        for (String name : coast.keySet()) {
            want.put("kept " + name, coast.get(name));
        }
        check("38: image", 1, x -> x.image(), want);

        want = see(made());
        want.keySet().removeIf(coast::containsKey);
        Map<String, Long> kept = new TreeMap<>();
        for (String name : want.keySet()) {
            if (name.startsWith("kept ")) {
                kept.put(name.substring(5), want.get(name));
            }
        }
        want.putAll(kept);
        check("39: undo", 1, x -> x.undo(), want);

        want = see(made());
        want.keySet().removeIf(name -> name.startsWith("kept "));
        check("40: tear", 1, x -> x.tear(), want);
    }

    /** What is done with one object doesn't show in another one, and a new one is as at first. */
    private static void otherObjects() {
        Map<String, Long> want = see(made());
        check("1: another object", 72, x -> {
            FogSchool other = Due.inFog(2);
            other.listed(-1);
            Due.feedAll(other, "hum");
            for (int i = 0; i < 8; i++) {
                other.keeper(i % 2, i);
                other.hold(i, i);
            }
            for (int i = 0; i < 6; i++) {
                other.child(i, 9);
            }
            for (int s = 0; s < 4; s++) {
                Due.sheetOf(other, s, 32, 3, 3, 3);
            }
            other.image();
            other.autumn(2);
            other.seed(4);
            other.undo();
            return other.go(60);
        }, want);
        FogSchool x = new FogSchool();
        DUE.is("1: no findings", x.status(-1), 0);
        for (int what = 0; what <= 7; what++) {
            DUE.is("1: count " + what + " of a new object", x.count(what), what == 6 ? 1 : 0);
        }
        DUE.is("1: no sheet", x.judge(0), Due.MISSING);
        DUE.is("1: no image", x.undo(), Due.NONE);
    }
}
