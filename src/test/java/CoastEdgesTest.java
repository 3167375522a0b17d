/** Promises 1 to 12 at their boundaries, on both sides of each. */
public final class CoastEdgesTest {
    private static final Due DUE = new Due("CoastEdgesTest");

    private static final int[] KEEPER_TOPS = {6, 15, 11, 15, 99, 1};
    private static final int[] CHILD_TOPS = {15, 9, 4095, 4095};

    public static void main(String[] args) {
        newObject();
        fog();
        listed();
        keeper();
        child();
        of();
        change();
        ofChild();
        teach();
        hears();
        go();
        lastDay();
        now();
        DUE.end();
    }

    private static void newObject() {
        DUE.is("1: no keepers", new FogSchool().of(0, 0), Due.BEYOND);
        DUE.is("1: no children", new FogSchool().ofChild(0, 0), Due.BEYOND);
        DUE.is("1: an empty tape", new FogSchool().text(), -1);
        DUE.is("1: no image", new FogSchool().undo(), Due.NONE);
        DUE.is("1: nothing to tear", new FogSchool().tear(), 0);
        DUE.is("1: DAY 0", new FogSchool().now(0), 0);
        DUE.is("1: z is 1", new FogSchool().seed(7), 1);
        for (int spot = 0; spot <= 9; spot++) {
            DUE.is("1: an empty spot " + spot, new FogSchool().as(spot, 0), Due.MISSING);
        }
        for (int s = 0; s <= 3; s++) {
            DUE.is("1: a missing sheet " + s, new FogSchool().load(s), Due.MISSING);
        }
        for (int which = -1; which <= 6; which++) {
            DUE.is("1: no finding " + which, new FogSchool().status(which), 0);
        }
    }

    private static void fog() {
        DUE.range("2: place", FogSchool::new, 0, 5, (x, v) -> x.fog(v, 1));
        DUE.range("2: fog", FogSchool::new, 0, 9, (x, v) -> x.fog(0, v));
        for (int i = 0; i <= 5; i++) {
            FogSchool x = new FogSchool();
            DUE.is("2: 0 at first in place " + i, x.fog(i, 9), 0);
            DUE.is("2: 9 then in place " + i, x.fog(i, 0), 9);
            DUE.is("2: 0 then in place " + i, x.fog(i, 0), 0);
            x.fog(i, 9);
            for (int other = 0; other <= 5; other++) {
                DUE.is("2: place " + i + " alone, not " + other, x.listed(other), other == i ? 9 : 0);
            }
        }
    }

    private static void listed() {
        DUE.range("3: place", FogSchool::new, 0, 5, FogSchool::listed);
    }

    private static void keeper() {
        DUE.range("4: kind", FogSchool::new, 0, 6, (x, v) -> x.keeper(v, 0));
        DUE.range("4: cell", FogSchool::new, 0, 15, (x, v) -> x.keeper(0, v));
        FogSchool x = new FogSchool();
        for (int k = 0; k < 7; k++) {
            x.keeper(k, 15 - k);
        }
        DUE.is("4: the 8th", x.keeper(6, 15), 7);
        DUE.is("4: the 9th", x.keeper(6, 15), Due.FULL);
        DUE.is("4: a 9th of kind 7", x.keeper(7, 0), Due.BEYOND);
        DUE.is("4: a 9th of kind -1", x.keeper(-1, 0), Due.BEYOND);
        DUE.is("4: a 9th at cell 16", x.keeper(0, 16), Due.BEYOND);
        DUE.is("4: a 9th at cell -1", x.keeper(0, -1), Due.BEYOND);
        DUE.is("4: eight stay", x.count(1), 8);
        DUE.is("4: the 8th's kind", x.of(7, 0), 6);
        DUE.is("4: the 8th's cell", x.of(7, 1), 15);
    }

    private static void child() {
        DUE.range("5: cell", FogSchool::new, 0, 15, (x, v) -> x.child(v, 0));
        DUE.range("5: quick", FogSchool::new, 0, 9, (x, v) -> x.child(0, v));
        FogSchool x = new FogSchool();
        for (int c = 0; c < 5; c++) {
            x.child(c, c);
        }
        DUE.is("5: the 6th", x.child(15, 9), 5);
        DUE.is("5: the 7th", x.child(15, 9), Due.FULL);
        DUE.is("5: a 7th at cell 16", x.child(16, 0), Due.BEYOND);
        DUE.is("5: a 7th at cell -1", x.child(-1, 0), Due.BEYOND);
        DUE.is("5: a 7th, quick 10", x.child(0, 10), Due.BEYOND);
        DUE.is("5: a 7th, quick -1", x.child(0, -1), Due.BEYOND);
        DUE.is("5: six stay", x.count(2), 6);
        DUE.is("5: the 6th's cell", x.ofChild(5, 0), 15);
        DUE.is("5: the 6th's quickness", x.ofChild(5, 1), 9);
    }

    private static void of() {
        DUE.range("6: keeper of three", Due::some, 0, 2, (x, v) -> x.of(v, 0));
        DUE.range("6: keeper of eight", Due::most, 0, 7, (x, v) -> x.of(v, 0));
        DUE.range("6: what", Due::some, 0, 10, (x, v) -> x.of(0, v));
        FogSchool x = Due.told("fog 0 9;fog 5 2;keeper loud 15");
        DUE.is("6: REACHES in the fog of DAY 0", x.of(0, 7), 11);
        x.go(5);
        DUE.is("6: REACHES in the fog of DAY 5", x.of(0, 7), 14);
        x.go(1);
        DUE.is("6: REACHES in the fog of DAY 6", x.of(0, 7), 11);
        x.go(1);
        DUE.is("6: REACHES on a clear DAY 7", x.of(0, 7), 15);
        x.change(0, 5, 1);
        DUE.is("6: a silent one REACHES as far", x.of(0, 7), 15);
        DUE.is("6: a silent one has a note to give", x.of(0, 6), 3);
    }

    private static void change() {
        DUE.range("7: keeper of three", Due::some, 0, 2, (x, v) -> x.change(v, 0, 0));
        DUE.range("7: keeper of eight", Due::most, 0, 7, (x, v) -> x.change(v, 0, 0));
        DUE.range("7: what", Due::some, 0, 5, (x, v) -> x.change(0, v, 0));
        for (int what = 0; what <= 5; what++) {
            int chosen = what;
            DUE.range("7: v of what " + what, Due::some, 0, KEEPER_TOPS[what], (x, v) -> x.change(0, chosen, v));
            FogSchool x = Due.some();
            x.change(1, what, 0);
            DUE.is("7: 0 becomes the top of " + what, x.change(1, what, KEEPER_TOPS[what]), 0);
            DUE.is("7: the top of " + what + " becomes 0", x.change(1, what, 0), KEEPER_TOPS[what]);
            x.change(1, what, KEEPER_TOPS[what]);
            DUE.is("7: it is the top of " + what, x.of(1, what), KEEPER_TOPS[what]);
            int[] others = {0, 4, 0, 6, 0, 0};
            for (int other = 0; other <= 5; other++) {
                DUE.is("7: another keeper's " + other + " stays", x.of(0, other), others[other]);
            }
        }
    }

    private static void ofChild() {
        DUE.range("8: child of two", Due::some, 0, 1, (x, v) -> x.ofChild(v, 0));
        DUE.range("8: child of six", Due::most, 0, 5, (x, v) -> x.ofChild(v, 0));
        DUE.range("8: what", Due::some, 0, 3, (x, v) -> x.ofChild(0, v));
    }

    private static void teach() {
        DUE.range("9: child of two", Due::some, 0, 1, (x, v) -> x.teach(v, 0, 0));
        DUE.range("9: child of six", Due::most, 0, 5, (x, v) -> x.teach(v, 0, 0));
        DUE.range("9: what", Due::some, 0, 3, (x, v) -> x.teach(0, v, 0));
        for (int what = 0; what <= 3; what++) {
            int chosen = what;
            DUE.range("9: v of what " + what, Due::some, 0, CHILD_TOPS[what], (x, v) -> x.teach(0, chosen, v));
            FogSchool x = Due.some();
            x.teach(0, what, 0);
            DUE.is("9: 0 becomes the top of " + what, x.teach(0, what, CHILD_TOPS[what]), 0);
            DUE.is("9: the top of " + what + " becomes 0", x.teach(0, what, 0), CHILD_TOPS[what]);
            x.teach(0, what, CHILD_TOPS[what]);
            for (int other = 0; other <= 3; other++) {
                int[] was = {5, 3, 0, 0};
                DUE.is("9: " + what + " alone, not " + other, x.ofChild(0, other), other == what ? CHILD_TOPS[what] : was[other]);
            }
            DUE.is("9: the other child's cell stays", x.ofChild(1, 0), 9);
            DUE.is("9: the other child's quickness stays", x.ofChild(1, 1), 9);
        }
    }

    private static void hears() {
        DUE.range("10: child of two", Due::some, 0, 1, (x, v) -> x.hears(v, 1));
        DUE.range("10: child of six", Due::most, 0, 5, (x, v) -> x.hears(v, 1));
        DUE.range("10: fog", Due::some, 1, 9, (x, v) -> x.hears(0, v));
        DUE.is("10: no keepers", Due.told("child").hears(0, 1), 0);
        FogSchool all = Due.told("hum;hum;hum;hum;hum;hum;hum;hum;child at 15");
        DUE.is("10: all eight", all.hears(0, 9), 255);
        all.change(0, 5, 1);
        all.change(7, 5, 1);
        DUE.is("10: not the silent ones", all.hears(0, 9), 126);
        FogSchool x = Due.told("keeper at 8 loud 7;child at 1;child at 0;child at 15");
        DUE.is("10: at the end of the reach", x.hears(0, 1), 1);
        DUE.is("10: one cell behind it", x.hears(1, 1), 0);
        DUE.is("10: at the other end", x.hears(2, 1), 1);
        DUE.is("10: in a thicker fog than the day's", x.hears(2, 2), 0);
        DUE.is("10: nothing changes", x.now(0) + x.now(1) + x.now(3) + x.of(0, 4), 0);
    }

    /** With fog in place 5 alone, the note of DAY 59 is the tenth: behind 59 days it hasn't been given yet. */
    private static void go() {
        DUE.range("11: days", Due::some, 1, 60, FogSchool::go);
        FogSchool x = Due.told("fog 5 1;keeper note 3;child");
        x.image();
        DUE.is("11: 59 days", x.go(59), 0);
        DUE.is("11: missed 9 notes", x.ofChild(0, 3), 4088);
        DUE.is("11: DAY 59", x.now(0), 59);
        x.undo();
        DUE.is("11: 60 days", x.go(60), 1);
        DUE.is("11: DAY 60", x.now(0), 60);
        DUE.is("11: one day more", x.go(1), 1);
        DUE.is("11: DAY 61", x.now(0), 61);
        DUE.is("11: nobody there", new FogSchool().go(1), 0);
        DUE.is("11: children alone", Due.told("fog 0 1;child").go(60), 0);
        DUE.is("11: keepers alone", Due.told("fog 0 1;keeper").go(60), 0);
        FogSchool all = Due.told("child knows 4095;child knows 4095;child knows 4095", "child knows 4095;child knows 4095;child knows 4095");
        DUE.is("11: all have learnt all", all.go(1), 72);
    }

    /** No 512 calls come so far; beyond them answers are free, but these hold. */
    private static void lastDay() {
        FogSchool x = new FogSchool();
        for (int i = 0; i < 1665; i++) {
            x.go(60);
        }
        x.go(39);
        DUE.is("11: DAY", x.now(0), 99939);
        x.image();
        DUE.is("11: to the last day", x.go(60), 0);
        DUE.is("11: DAY 99999", x.now(0), 99999);
        DUE.is("11: no day more", x.go(1), Due.STATE);
        DUE.is("11: 0 days even then", x.go(0), Due.BEYOND);
        DUE.is("11: 61 days even then", x.go(61), Due.BEYOND);
        DUE.is("11: DAY stays", x.now(0), 99999);
        x.undo();
        x.go(1);
        DUE.is("11: one day too many", x.go(60), Due.STATE);
        DUE.is("11: the day stays", x.now(0), 99940);
        DUE.is("11: to the last day again", x.go(59), 0);
        x.undo();
        x.go(40);
        DUE.is("25: 21 times even then", x.autumn(21), Due.BEYOND);
        DUE.is("25: to the last day", x.autumn(20), 0);
        DUE.is("25: no day more", x.autumn(1), Due.STATE);
        DUE.is("25: 0 times even then", x.autumn(0), Due.BEYOND);
        x.seed(5);
        x.autumn(1);
        DUE.is("25: nothing is drawn then", x.count(6), 5);
        x.undo();
        x.go(41);
        DUE.is("25: 20 days too many", x.autumn(20), Due.STATE);
        DUE.is("25: 19 days", x.autumn(19), 0);
    }

    private static void now() {
        DUE.range("12: what", Due::some, 0, 7, FogSchool::now);
        FogSchool x = Due.told("child knows 4095;child knows 4094;child knows 2047;child;child;child knows 4095");
        DUE.is("12: learnt together", x.now(1), 12 + 11 + 11 + 0 + 0 + 12);
        DUE.is("12: who learnt all 12", x.now(6), 1 + 32);
        x.teach(0, 2, 0);
        x.teach(5, 2, 1);
        DUE.is("12: nobody learnt all 12", x.now(6), 0);
        DUE.is("12: all 12 by somebody", x.now(2), 4095);
        x.teach(1, 2, 2048);
        x.teach(2, 2, 0);
        DUE.is("12: the first and the last", x.now(2), 2049);
        x.teach(0, 3, 2048);
        x.teach(5, 3, 1);
        DUE.is("12: missed, the first and the last", x.now(3), 2049);
        FogSchool y = Due.told("keeper note 11;keeper;keeper note 5;keeper note 11");
        DUE.is("12: given", y.now(4), 2048 + 1 + 32);
        y.change(0, 5, 1);
        DUE.is("12: given by another still", y.now(4), 2048 + 1 + 32);
        y.change(3, 5, 1);
        DUE.is("12: given by a silent one alone", y.now(4), 1 + 32);
        DUE.is("12: given by one alone", Due.told("keeper note 11").now(4), 2048);
        DUE.is("12: given by nobody", Due.told("keeper silent").now(4), 0);
        y.change(0, 4, 99);
        y.change(3, 4, 99);
        DUE.is("12: tired, the silent too", y.now(5), 198);
        y.fog(0, 9);
        DUE.is("12: the fog of DAY 0", y.now(7), 9);
        y.go(6);
        DUE.is("12: the fog of DAY 6", y.now(7), 9);
        y.go(5);
        DUE.is("12: the fog of DAY 11", y.now(7), 0);
    }
}
