/** Promises 1 to 12: the coast, its keepers and children, and days. */
public final class CoastTest {
    private static final Due DUE = new Due("CoastTest");

    public static void main(String[] args) {
        newObject();
        fogAndListed();
        keeper();
        child();
        ofEachKind();
        ofEdges();
        change();
        childAndTeach();
        hears();
        goTeaches();
        goInOrder();
        goWithMost();
        goTiresAndTurns();
        goWrong();
        now();
        DUE.end();
    }

    private static void newObject() {
        FogSchool x = new FogSchool();
        for (int what = 0; what < 8; what++) {
            DUE.is("1: count " + what, x.count(what), what == 6 ? 1 : 0);
        }
        for (int i = 0; i < 6; i++) {
            DUE.is("1: listed " + i, x.listed(i), 0);
        }
        DUE.is("1: status", x.status(-1), 0);
        DUE.is("1: spot", x.as(9, 0), Due.MISSING);
        DUE.is("1: sheet", x.load(3), Due.MISSING);
        DUE.is("1: no image", x.undo(), Due.NONE);
        DUE.is("1: nothing kept", x.tear(), 0);
        DUE.is("1: tape", x.wipe(), 0);
    }

    private static void fogAndListed() {
        FogSchool x = new FogSchool();
        DUE.is("2: first", x.fog(0, 9), 0);
        DUE.is("2: what it was", x.fog(0, 4), 9);
        DUE.is("2: last place", x.fog(5, 7), 0);
        DUE.is("2: place 6", x.fog(6, 1), Due.BEYOND);
        DUE.is("2: place -1", x.fog(-1, 1), Due.BEYOND);
        DUE.is("2: fog 10", x.fog(0, 10), Due.BEYOND);
        DUE.is("2: fog -1", x.fog(0, -1), Due.BEYOND);
        DUE.is("3: place 0", x.listed(0), 4);
        DUE.is("3: place 1", x.listed(1), 0);
        DUE.is("3: place 5", x.listed(5), 7);
        DUE.is("3: place 6", x.listed(6), Due.BEYOND);
        DUE.is("3: place -1", x.listed(-1), Due.BEYOND);
        DUE.is("3: lowest", x.listed(Integer.MIN_VALUE), Due.BEYOND);
    }

    private static void keeper() {
        FogSchool x = new FogSchool();
        DUE.is("4: kind 7", x.keeper(7, 0), Due.BEYOND);
        DUE.is("4: kind -1", x.keeper(-1, 0), Due.BEYOND);
        DUE.is("4: cell 16", x.keeper(0, 16), Due.BEYOND);
        DUE.is("4: cell -1", x.keeper(0, -1), Due.BEYOND);
        for (int k = 0; k < 8; k++) {
            DUE.is("4: number", x.keeper(k % 7, 15 - k), k);
        }
        DUE.is("4: beyond ahead of full", x.keeper(7, 0), Due.BEYOND);
        DUE.is("4: full", x.keeper(0, 0), Due.FULL);
        int[] first = {6, 9, 0, 6, 0, 0};
        for (int what = 0; what < 6; what++) {
            DUE.is("4: at first " + what, x.of(6, what), first[what]);
        }
    }

    private static void child() {
        FogSchool x = new FogSchool();
        DUE.is("5: cell 16", x.child(16, 0), Due.BEYOND);
        DUE.is("5: cell -1", x.child(-1, 0), Due.BEYOND);
        DUE.is("5: quick 10", x.child(0, 10), Due.BEYOND);
        DUE.is("5: quick -1", x.child(0, -1), Due.BEYOND);
        for (int c = 0; c < 6; c++) {
            DUE.is("5: number", x.child(15 - c, 9 - c), c);
        }
        DUE.is("5: beyond ahead of full", x.child(0, 10), Due.BEYOND);
        DUE.is("5: full", x.child(0, 0), Due.FULL);
        int[] first = {10, 4, 0, 0};
        for (int what = 0; what < 4; what++) {
            DUE.is("5: at first " + what, x.ofChild(5, what), first[what]);
        }
    }

    /** In a fog of 5 on DAY 0, then behind a clear day. */
    private static void ofEachKind() {
        int[][] inFog = {{7, 7, 3, 2, 1}, {7, 9, 5, 1, 1}, {8, 5, 2, 5, 1}, {8, 5, 4, 5, 6}, {0, 15, 0, 0, 0},
            {4, 3, 7, 0, 11}, {6, 9, 6, 3, 2}};
        int[][] nextDay = {{7, 9, 3, 2, 1}, {7, 11, 5, 1, 1}, {5, 7, 2, 5, 0}, {6, 7, 4, 5, 5}, {0, 15, 0, 0, 0},
            {4, 4, 7, 0, 11}, {6, 11, 6, 3, 2}};
        for (int kind = 0; kind < 7; kind++) {
            FogSchool x = new FogSchool();
            x.keeper(kind, 5);
            x.change(0, 2, 7);
            x.change(0, 3, 9);
            x.change(0, 4, 25);
            x.fog(0, 5);
            for (int what = 6; what <= 10; what++) {
                DUE.is("6: kind " + kind + " what " + what, x.of(0, what), inFog[kind][what - 6]);
            }
            x.fog(0, 0);
            x.go(1);
            DUE.is("6: rested", x.of(0, 4), 22);
            for (int what = 6; what <= 10; what++) {
                DUE.is("6: next day, kind " + kind + " what " + what, x.of(0, what), nextDay[kind][what - 6]);
            }
        }
    }

    private static void ofEdges() {
        FogSchool x = new FogSchool();
        DUE.is("6: no keeper", x.of(0, 0), Due.BEYOND);
        x.keeper(2, 3);
        x.fog(0, 9);
        x.change(0, 3, 3);
        DUE.is("6: 0 at least", x.of(0, 7), 0);
        x.change(0, 3, 15);
        x.change(0, 4, 99);
        DUE.is("6: less a tenth", x.of(0, 7), 2);
        x.change(0, 3, 12);
        DUE.is("6: drunk 0 at least", x.of(0, 7), 0);
        x.change(0, 3, 0);
        x.change(0, 0, 1);
        DUE.is("6: head is 2 more than 0", x.of(0, 7), 2);
        x.change(0, 0, 6);
        DUE.is("6: elder's note 0 and 11", x.of(0, 6), 11);
        DUE.is("6: kind", x.of(0, 0), 6);
        DUE.is("6: cell", x.of(0, 1), 3);
        DUE.is("6: what 11", x.of(0, 11), Due.BEYOND);
        DUE.is("6: what -1", x.of(0, -1), Due.BEYOND);
        DUE.is("6: keeper 1", x.of(1, 0), Due.BEYOND);
        DUE.is("6: keeper -1", x.of(-1, 0), Due.BEYOND);
    }

    private static void change() {
        FogSchool x = new FogSchool();
        DUE.is("7: no keeper", x.change(0, 1, 1), Due.BEYOND);
        x.keeper(4, 8);
        int[] first = {4, 8, 0, 6, 0, 0};
        int[] tops = {6, 15, 11, 15, 99, 1};
        for (int what = 0; what < 6; what++) {
            DUE.is("7: above " + what, x.change(0, what, tops[what] + 1), Due.BEYOND);
            DUE.is("7: below " + what, x.change(0, what, -1), Due.BEYOND);
            DUE.is("7: top of " + what, x.change(0, what, tops[what]), first[what]);
            DUE.is("7: 0 for " + what, x.change(0, what, 0), tops[what]);
            DUE.is("7: is 0", x.of(0, what), 0);
        }
        DUE.is("7: what 6", x.change(0, 6, 0), Due.BEYOND);
        DUE.is("7: what -1", x.change(0, -1, 0), Due.BEYOND);
        DUE.is("7: keeper 1", x.change(1, 0, 0), Due.BEYOND);
    }

    private static void childAndTeach() {
        FogSchool x = new FogSchool();
        DUE.is("8: no child", x.ofChild(0, 0), Due.BEYOND);
        DUE.is("9: no child", x.teach(0, 0, 0), Due.BEYOND);
        x.child(2, 5);
        int[] first = {2, 5, 0, 0};
        int[] tops = {15, 9, 4095, 4095};
        for (int what = 0; what < 4; what++) {
            DUE.is("9: above " + what, x.teach(0, what, tops[what] + 1), Due.BEYOND);
            DUE.is("9: below " + what, x.teach(0, what, -1), Due.BEYOND);
            DUE.is("9: top of " + what, x.teach(0, what, tops[what]), first[what]);
            DUE.is("8: is the top", x.ofChild(0, what), tops[what]);
            DUE.is("9: 0 for " + what, x.teach(0, what, 0), tops[what]);
        }
        DUE.is("9: what 4", x.teach(0, 4, 0), Due.BEYOND);
        DUE.is("9: what -1", x.teach(0, -1, 0), Due.BEYOND);
        DUE.is("8: what 4", x.ofChild(0, 4), Due.BEYOND);
        DUE.is("8: what -1", x.ofChild(0, -1), Due.BEYOND);
        DUE.is("8: child 1", x.ofChild(1, 0), Due.BEYOND);
        DUE.is("8: child -1", x.ofChild(-1, 0), Due.BEYOND);
    }

    private static void hears() {
        FogSchool x = new FogSchool();
        DUE.is("10: no child", x.hears(0, 1), Due.BEYOND);
        x.child(4, 0);
        x.keeper(0, 0);
        x.keeper(5, 1);
        x.keeper(4, 15);
        x.keeper(1, 12);
        DUE.is("10: in 1", x.hears(0, 1), 1 + 2 + 4 + 8);
        DUE.is("10: in 2: one cell less", x.hears(0, 2), 1 + 4);
        DUE.is("10: in 5", x.hears(0, 5), 1 + 4);
        DUE.is("10: in 6", x.hears(0, 6), 4);
        x.change(2, 5, 1);
        DUE.is("10: silent", x.hears(0, 9), 0);
        x.teach(0, 2, 4095);
        DUE.is("10: what is learnt doesn't count", x.hears(0, 1), 1 + 2 + 8);
        DUE.is("10: fog 0", x.hears(0, 0), Due.BEYOND);
        DUE.is("10: fog 10", x.hears(0, 10), Due.BEYOND);
        DUE.is("10: child 1", x.hears(1, 1), Due.BEYOND);
    }

    private static void goTeaches() {
        FogSchool x = Due.inFog(1);
        x.keeper(0, 0);
        x.child(6, 3);
        x.child(7, 9);
        x.child(0, 2);
        DUE.is("11: a day", x.go(1), 1);
        DUE.is("11: at the end of the reach, just quick", x.ofChild(0, 2), 1);
        DUE.is("11: beyond the reach", x.ofChild(1, 2) + x.ofChild(1, 3), 0);
        DUE.is("11: too slow", x.ofChild(2, 3), 1);
        DUE.is("11: 11 days", x.go(11), 12);
        DUE.is("11: all learnt", x.ofChild(0, 2), 4095);
        DUE.is("11: all missed", x.ofChild(2, 3), 4095);
        x.teach(2, 1, 3);
        DUE.is("11: learnt, once it is quick", x.go(2), 14);
        DUE.is("11: missed no more", x.ofChild(2, 3), 4092);
        x.teach(2, 2, 1 + 4);
        x.go(1);
        DUE.is("11: what is learnt stays missed as it was", x.ofChild(2, 3), 4092);
        x.teach(2, 2, 1);
        x.teach(2, 3, 0);
        x.go(1);
        DUE.is("11: not without the one ahead of it", x.ofChild(2, 2), 1);
        DUE.is("11: missed then", x.ofChild(2, 3), 8);
    }

    /** Keeper 1 builds on what keeper 0 gave on the same day, not the other way round. */
    private static void goInOrder() {
        FogSchool x = Due.inFog(1);
        x.keeper(0, 0);
        x.keeper(0, 0);
        x.change(1, 2, 1);
        x.child(0, 3);
        DUE.is("11: two in a day", x.go(1), 2);
        FogSchool y = Due.inFog(1);
        y.keeper(0, 0);
        y.keeper(0, 0);
        y.change(0, 2, 1);
        y.child(0, 3);
        DUE.is("11: one in a day", y.go(1), 1);
        DUE.is("11: the other missed", y.ofChild(0, 3), 2);
    }

    /** All that there may be, and nothing of those that an undo took away. */
    private static void goWithMost() {
        FogSchool x = Due.inFog(2);
        x.image();
        for (int k = 0; k < 8; k++) {
            x.keeper(0, 0);
            x.change(k, 2, k);
            x.change(k, 4, 9);
        }
        for (int c = 0; c < 6; c++) {
            x.child(c, 3);
        }
        DUE.is("10: all heard", x.hears(5, 2), 255);
        DUE.is("11: eight notes each", x.go(1), 48);
        DUE.is("11: the rest", x.go(4), 72);
        DUE.is("12: all know all", x.now(6), 63);
        DUE.is("12: tired", x.now(5), 8 * 19);
        DUE.is("22: nobody has more to learn", x.hush(20), 0);
        x.undo();
        for (int what = 0; what < 7; what++) {
            DUE.is("12: undone " + what, x.now(what), 0);
        }
        x.child(0, 3);
        DUE.is("10: nobody heard", x.hears(0, 1), 0);
        DUE.is("11: nobody teaches", x.go(1), 0);
    }

    private static void goTiresAndTurns() {
        FogSchool x = new FogSchool();
        x.fog(0, 9);
        x.fog(1, 1);
        int[] note = {2, 2, 1, 11, 0, 10, 4};
        int[] tired = {4, 2, 10, 10, 0, 0, 6};
        for (int kind = 0; kind < 7; kind++) {
            x.keeper(kind, 0);
        }
        x.keeper(0, 0);
        x.change(7, 5, 1);
        x.change(7, 4, 50);
        x.go(2);
        for (int kind = 0; kind < 7; kind++) {
            DUE.is("11: note of kind " + kind, x.of(kind, 2), note[kind]);
            DUE.is("11: tired of kind " + kind, x.of(kind, 4), tired[kind]);
        }
        DUE.is("11: silent doesn't tire", x.of(7, 4), 50);
        DUE.is("11: silent doesn't turn", x.of(7, 2), 0);
        x.go(1);
        DUE.is("11: rests", x.of(0, 4), 1);
        DUE.is("11: 0 at least", x.of(1, 4), 0);
        DUE.is("11: silent rests too", x.of(7, 4), 47);
        DUE.is("11: no note on a clear day", x.of(0, 2), 2);
        x.change(2, 4, 97);
        x.go(4);
        DUE.is("11: 91, of which 5 more", x.of(2, 4), 93);
        x.change(2, 4, 96);
        x.go(1);
        DUE.is("11: 99 at most", x.of(2, 4), 99);
    }

    private static void goWrong() {
        FogSchool x = new FogSchool();
        DUE.is("11: 0 days", x.go(0), Due.BEYOND);
        DUE.is("11: 61 days", x.go(61), Due.BEYOND);
        DUE.is("11: -1 days", x.go(-1), Due.BEYOND);
        DUE.is("11: greatest", x.go(Integer.MAX_VALUE), Due.BEYOND);
        DUE.is("11: nothing changed", x.now(0), 0);
        DUE.is("11: 60 days", x.go(60), 0);
        DUE.is("11: day", x.now(0), 60);
        // A day above 99999 is out of 512 calls' reach; beyond them answers are free, but this one still holds.
        for (int i = 0; i < 1665; i++) {
            x.go(60);
        }
        DUE.is("11: day 99960", x.now(0), 99960);
        DUE.is("11: state", x.go(40), Due.STATE);
        DUE.is("11: beyond ahead of state", x.go(61), Due.BEYOND);
        x.image();
        DUE.is("11: to the last day", x.go(39), 0);
        DUE.is("11: last day", x.count(0), 99999);
        x.undo();
        DUE.is("25: in state", x.autumn(20), 0);
        DUE.is("25: state", x.autumn(20), Due.STATE);
        DUE.is("25: to the last day", x.autumn(19), 0);
        DUE.is("11: behind it", x.go(1), Due.STATE);
        for (int i = 0; i < 6; i++) {
            x.fog(i, 0);
        }
        x.keeper(3, 0);
        DUE.is("13: the last day stays", x.ahead(0, 6, 100), 99999 % 12);
    }

    private static void now() {
        FogSchool x = new FogSchool();
        for (int what = 0; what < 8; what++) {
            DUE.is("12: at first " + what, x.now(what), 0);
        }
        x.fog(0, 3);
        x.fog(1, 8);
        x.keeper(0, 0);
        x.keeper(5, 15);
        x.keeper(3, 15);
        x.keeper(1, 9);
        x.change(3, 5, 1);
        x.change(3, 2, 7);
        x.change(3, 4, 40);
        x.child(0, 3);
        x.child(1, 1);
        x.child(2, 3);
        x.teach(1, 2, 4095);
        x.teach(2, 2, 6);
        x.go(1);
        DUE.is("12: day", x.now(0), 1);
        DUE.is("12: learnt together", x.now(1), 1 + 12 + 3);
        DUE.is("12: learnt by somebody", x.now(2), 4095);
        DUE.is("12: missed by nobody", x.now(3), 0);
        // The keeper is at 1, the echo at 11 (it gives 0), the poet at 6, tired by 5, on DAY 1 (it gives 0).
        DUE.is("12: given, not by the silent", x.now(4), 2 + 1);
        DUE.is("12: tired together, the silent too", x.now(5), 2 + 0 + 5 + 40);
        DUE.is("12: who learnt all", x.now(6), 2);
        DUE.is("12: fog of the day", x.now(7), 8);
        x.teach(1, 2, 0);
        x.teach(1, 3, 5);
        x.teach(0, 3, 8);
        DUE.is("12: learnt by somebody still", x.now(2), 7);
        DUE.is("12: missed", x.now(3), 13);
        DUE.is("12: nobody learnt all", x.now(6), 0);
        DUE.is("12: what 8", x.now(8), Due.BEYOND);
        DUE.is("12: what -1", x.now(-1), Due.BEYOND);
    }
}
