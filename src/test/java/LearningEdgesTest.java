/** Promises 13 to 24 at their boundaries, on both sides of each. */
public final class LearningEdgesTest {
    private static final Due DUE = new Due("LearningEdgesTest");

    public static void main(String[] args) {
        ahead();
        later();
        learns();
        taught();
        weary();
        seatFor();
        quickFor();
        kindFor();
        eachKindIsBest();
        fogFor();
        hush();
        fits();
        fitsToTheEnd();
        kinds();
        kindsToTheEnd();
        DUE.end();
    }

    private static void ahead() {
        DUE.range("13: keeper of three", Due::some, 0, 2, (x, v) -> x.ahead(v, 2, 1));
        DUE.range("13: keeper of eight", Due::most, 0, 7, (x, v) -> x.ahead(v, 2, 1));
        DUE.range("13: days", Due::some, 0, 100, (x, v) -> x.ahead(0, 2, v));
        FogSchool x = Due.some();
        for (int what = -2; what <= 12; what++) {
            boolean isTold = what == 2 || what == 4 || what == 6;
            DUE.is("13: what " + what, x.ahead(2, what, 1), isTold ? 0 : Due.BEYOND);
        }
        DUE.is("13: what, as low as can be", x.ahead(2, Integer.MIN_VALUE, 1), Due.BEYOND);
        DUE.is("13: what, as high as can be", x.ahead(2, Integer.MAX_VALUE, 1), Due.BEYOND);
        DUE.is("13: NOTE behind 99 days", x.ahead(0, 2, 99), 3);
        DUE.is("13: NOTE behind 100 days", x.ahead(0, 2, 100), 4);
        DUE.is("13: TIRED now", x.ahead(0, 4, 0), 0);
        DUE.is("13: TIRED behind a day", x.ahead(0, 4, 1), 2);
        DUE.is("13: TIRED behind 49 days", x.ahead(0, 4, 49), 98);
        DUE.is("13: TIRED behind 50 days", x.ahead(0, 4, 50), 99);
        DUE.is("13: TIRED behind 100 days", x.ahead(0, 4, 100), 99);
        DUE.is("13: GIVES behind 11 days", x.ahead(0, 6, 11), 11);
        DUE.is("13: GIVES behind 12 days", x.ahead(0, 6, 12), 0);
        FogSchool poet = Due.told("poet");
        DUE.is("13: GIVES by the DAY then", poet.ahead(0, 6, 11), 11);
        DUE.is("13: GIVES by the DAY then, around", poet.ahead(0, 6, 100), 4);
    }

    private static void later() {
        DUE.range("14: child of two", Due::some, 0, 1, (x, v) -> x.later(v, 2, 1));
        DUE.range("14: child of six", Due::most, 0, 5, (x, v) -> x.later(v, 2, 1));
        DUE.range("14: what", Due::some, 2, 3, (x, v) -> x.later(0, v, 1));
        DUE.range("14: days", Due::some, 0, 100, (x, v) -> x.later(0, 2, v));
        FogSchool x = Due.told("fog 3 1;keeper;child quick 3 knows 4094;child quick 2");
        DUE.is("14: LEARNT now", x.later(0, 2, 0), 4094);
        DUE.is("14: LEARNT behind 3 days", x.later(0, 2, 3), 4094);
        DUE.is("14: LEARNT behind 4 days", x.later(0, 2, 4), 4095);
        DUE.is("14: MISSED now", x.later(1, 3, 0), 0);
        DUE.is("14: MISSED behind 3 days", x.later(1, 3, 3), 0);
        DUE.is("14: MISSED behind 4 days", x.later(1, 3, 4), 1);
        // A poet gives the note below each time: 2 on DAYS 27 and 99, and on DAY 33 note 1, which must come first.
        FogSchool y = Due.told("fog 3 1;poet note 3;child quick 9 knows 1");
        DUE.is("14: note 2 missed behind 28 days", y.later(0, 3, 28) & 4, 4);
        DUE.is("14: behind 33 days", y.later(0, 2, 33), 1);
        DUE.is("14: behind 34 days", y.later(0, 2, 34), 3);
        DUE.is("14: behind 99 days", y.later(0, 2, 99), 3);
        DUE.is("14: missed still behind 99 days", y.later(0, 3, 99) & 4, 4);
        DUE.is("14: behind 100 days", y.later(0, 2, 100), 7);
        DUE.is("14: missed no more behind 100 days", y.later(0, 3, 100) & 4, 0);
    }

    /**
     * Fog on one odd day in six: a poet gives the note below each time, so a child that knows what
     * comes ahead of it learns one note in eleven: 198 days for three, and some for the first.
     */
    private static FogSchool slowly(int place, int note) {
        FogSchool x = Due.told("poet;child quick 9;child at 3 quick 9");
        x.fog(place, 1);
        x.change(0, 2, note);
        return x;
    }

    private static void learns() {
        DUE.range("15: child of two", Due::some, 0, 1, (x, v) -> x.learns(v, 0));
        DUE.range("15: child of six", Due::most, 0, 5, (x, v) -> x.learns(v, 0));
        DUE.range("15: note", Due::some, 0, 11, (x, v) -> x.learns(0, v));
        DUE.is("15: it has learnt it", Due.told("child knows 2048").learns(0, 11), 0);
        DUE.is("15: it never will", Due.told("child knows 2047").learns(0, 11), Due.NONE);
        DUE.is("15: behind a day", Due.told("fog 0 1;keeper;child").learns(0, 0), 1);
        FogSchool apart = Due.told("fog 0 1;keeper;child at 6;child at 7");
        DUE.is("15: within reach", apart.learns(0, 0), 1);
        DUE.is("15: a cell behind it", apart.learns(1, 0), Due.NONE);
        DUE.is("15: behind 200 days", slowly(1, 11).learns(0, 3), 200);
        DUE.is("15: behind 206 days", slowly(1, 0).learns(0, 3), Due.NONE);
        FogSchool late = new FogSchool();
        late.go(5);
        late.fog(1, 1);
        Due.read(late, "poet note 5;child quick 9");
        DUE.is("15: behind 201 days", late.learns(0, 3), Due.NONE);
        late.go(1);
        DUE.is("15: a day later, behind 200", late.learns(0, 3), 200);
    }

    private static void taught() {
        DUE.range("16: note", Due::some, 0, 11, FogSchool::taught);
        DUE.is("16: no children", new FogSchool().taught(11), 0);
        DUE.is("16: all have learnt it", Due.told("child knows 2048;child knows 2048").taught(11), 0);
        DUE.is("16: one never will", Due.told("child knows 2048;child").taught(11), Due.NONE);
        FogSchool x = Due.told("fog 0 1;keeper;keeper at 15 note 11;child;child at 15");
        DUE.is("16: the one behind a day, the other behind seven", x.taught(0), 7);
        x.teach(1, 2, 1);
        DUE.is("16: the one behind a day, the other now", x.taught(0), 1);
        DUE.is("16: behind 200 days", slowly(1, 11).taught(3), 200);
        DUE.is("16: behind 206 days", slowly(1, 0).taught(3), Due.NONE);
        FogSchool late = new FogSchool();
        late.go(5);
        late.fog(1, 1);
        Due.read(late, "poet note 5;child quick 9;child quick 4");
        DUE.is("16: behind 201 days", late.taught(3), Due.NONE);
        late.go(1);
        DUE.is("16: a day later, behind 200", late.taught(3), 200);
    }

    private static void weary() {
        DUE.range("17: keeper of three", Due::some, 0, 2, (x, v) -> x.weary(v, 0));
        DUE.range("17: keeper of eight", Due::most, 0, 7, (x, v) -> x.weary(v, 0));
        DUE.range("17: v", Due::some, 0, 99, (x, v) -> x.weary(0, v));
        FogSchool x = Due.some();
        DUE.is("17: 0 or more now", x.weary(2, 0), 0);
        DUE.is("17: a hum's 1", x.weary(2, 1), Due.NONE);
        DUE.is("17: 98 is 49 times 2", x.weary(0, 98), 49);
        DUE.is("17: 99 is behind that", x.weary(0, 99), 50);
        x.change(0, 4, 99);
        DUE.is("17: 99 now", x.weary(0, 99), 0);
        x.change(0, 4, 98);
        DUE.is("17: 98 now", x.weary(0, 98), 0);
        DUE.is("17: 99 tomorrow", x.weary(0, 99), 1);
        // Five days of fog and a clear one make 2 of a head: 66 behind 198 days, 2 more behind 200, 3 behind 201.
        FogSchool y = Due.told("fog 0 1;fog 1 1;fog 2 1;fog 4 1;fog 5 1;head");
        DUE.is("17: behind 200 days", y.weary(0, 68), 200);
        DUE.is("17: behind 201 days", y.weary(0, 69), Due.NONE);
    }

    /** With fog in place 5 alone the tenth note, note 0, comes on DAY 59: behind 60 days, not behind 59. */
    private static FogSchool tenth() {
        return Due.told("fog 5 1;keeper at 3 note 3 loud 0;child at 3");
    }

    private static void seatFor() {
        DUE.range("18: child of two", Due::some, 0, 1, (x, v) -> x.seatFor(v, 1));
        DUE.range("18: child of six", Due::most, 0, 5, (x, v) -> x.seatFor(v, 1));
        DUE.range("18: days", Due::some, 0, 60, (x, v) -> x.seatFor(0, v));
        DUE.is("18: behind 59 days all cells are alike", tenth().seatFor(0, 59), 0);
        DUE.is("18: behind 60 days", tenth().seatFor(0, 60), 3);
        FogSchool ends = Due.told("fog 0 1;keeper at 15 loud 0;child at 7");
        DUE.is("18: the last cell", ends.seatFor(0, 1), 15);
        ends.change(0, 3, 1);
        DUE.is("18: the least of two", ends.seatFor(0, 1), 14);
        ends.change(0, 1, 0);
        DUE.is("18: the first cell", ends.seatFor(0, 1), 0);
        DUE.is("18: 0 days", ends.seatFor(0, 0), 0);
        DUE.is("18: no keepers", Due.told("fog 0 1;child at 9").seatFor(0, 60), 0);
        // What counts is how many it has then, not how many are new; 1 is as good as 1.
        FogSchool two = Due.told("fog 0 1;keeper at 2 loud 0;keeper at 9 note 1 loud 0;child;child");
        DUE.is("18: one note at 2, none at 9", two.seatFor(0, 1), 2);
        two.teach(0, 2, 1);
        DUE.is("18: none at 2, one at 9", two.seatFor(0, 1), 9);
        DUE.is("18: the other child's is another one", two.seatFor(1, 1), 2);
    }

    private static void quickFor() {
        DUE.range("19: child of two", Due::some, 0, 1, (x, v) -> x.quickFor(v, 0, 1));
        DUE.range("19: child of six", Due::most, 0, 5, (x, v) -> x.quickFor(v, 0, 1));
        DUE.range("19: note", Due::some, 0, 11, (x, v) -> x.quickFor(0, v, 1));
        DUE.range("19: days", Due::some, 0, 60, (x, v) -> x.quickFor(0, 0, v));
        DUE.is("19: behind 59 days", tenth().quickFor(0, 0, 59), Due.NONE);
        DUE.is("19: behind 60 days", tenth().quickFor(0, 0, 60), 3);
        int[] tempo = {3, 5, 2, 4, 0, 7, 6};
        int[] note = {0, 0, 0, 0, 0, 11, 1};
        for (int kind = 0; kind <= 6; kind++) {
            FogSchool x = Due.told("fog 0 1;child quick 0");
            x.keeper(kind, 0);
            x.change(0, 2, note[kind]);
            DUE.is("19: as kind " + kind + " asks", x.quickFor(0, 0, 1), tempo[kind]);
        }
        FogSchool apart = Due.told("fog 0 1;keeper;child at 6;child at 7");
        DUE.is("19: within reach", apart.quickFor(0, 0, 1), 3);
        DUE.is("19: a cell behind it", apart.quickFor(1, 0, 60), Due.NONE);
        FogSchool x = Due.told("child knows 2048");
        DUE.is("19: it has learnt it", x.quickFor(0, 11, 0), 0);
        DUE.is("19: it hasn't", x.quickFor(0, 10, 0), Due.NONE);
    }

    private static void kindFor() {
        DUE.range("20: keeper of three", Due::some, 0, 2, (x, v) -> x.kindFor(v, 1));
        DUE.range("20: keeper of eight", Due::most, 0, 7, (x, v) -> x.kindFor(v, 1));
        DUE.range("20: days", Due::some, 0, 60, (x, v) -> x.kindFor(0, v));
        DUE.is("20: behind 59 days a hum alone teaches", tenth().kindFor(0, 59), 4);
        DUE.is("20: behind 60 days a keeper teaches as much", tenth().kindFor(0, 60), 0);
        FogSchool x = Due.told("fog 0 1;elder;child quick 9");
        DUE.is("20: of several the least", x.kindFor(0, 1), 0);
        DUE.is("20: behind 0 days all are alike", x.kindFor(0, 0), 0);
        x.change(0, 5, 1);
        DUE.is("20: silent, all are alike", x.kindFor(0, 60), 0);
    }

    private static void eachKindIsBest() {
        int[][] rows = {
            // NOTE, TIRED, the child's CELL, QUICK, DAY, the one KIND that gives note 1 (to a slow one: 0)
            {1, 5, 0, 3, 0, 0}, {1, 0, 8, 5, 0, 1}, {1, 0, 0, 2, 0, 2}, {0, 0, 0, 4, 1, 3}, {10, 0, 0, 7, 0, 5}, {2, 0, 0, 6, 0, 6}};
        for (int[] row : rows) {
            FogSchool x = new FogSchool();
            if (row[4] > 0) {
                x.go(row[4]);
            }
            x.fog(row[4], 1);
            x.keeper(4, 0);
            x.change(0, 2, row[0]);
            x.change(0, 4, row[1]);
            x.child(row[2], row[3]);
            x.teach(0, 2, 1);
            DUE.is("20: kind " + row[5] + " is best", x.kindFor(0, 1), row[5]);
        }
        DUE.is("20: kind 4 is best", Due.told("fog 0 1;keeper;child quick 0").kindFor(0, 1), 4);
    }

    private static void fogFor() {
        DUE.range("21: place", Due::some, 0, 5, (x, v) -> x.fogFor(v, 0, 1));
        DUE.range("21: notes", Due::some, 0, 72, (x, v) -> x.fogFor(0, v, 1));
        DUE.range("21: days", Due::some, 0, 60, (x, v) -> x.fogFor(0, 0, v));
        DUE.is("21: behind 59 days", tenth().fogFor(5, 1, 59), Due.NONE);
        DUE.is("21: behind 60 days", tenth().fogFor(5, 1, 60), 9);
        FogSchool all = Due.told("child knows 4095;child knows 4095;child knows 4095", "child knows 4095;child knows 4095;child knows 4095");
        DUE.is("21: all 72", all.fogFor(0, 72, 0), 9);
        all.teach(5, 2, 2047);
        DUE.is("21: 71 are no 72", all.fogFor(0, 72, 60), Due.NONE);
        DUE.is("21: 71 are 71", all.fogFor(0, 71, 60), 9);
        // LOUD 6 reaches as far as the child's cell through no more than that: half of 9 is 4, half of 1 is 0.
        int[] thickest = {9, 9, 9, 7, 5, 3, 1, Due.NONE};
        for (int cell = 0; cell <= 7; cell++) {
            FogSchool x = Due.told("keeper");
            x.child(cell, 3);
            DUE.is("21: a child at cell " + cell, x.fogFor(0, 1, 1), thickest[cell]);
            DUE.is("21: a second note at cell " + cell, x.fogFor(0, 2, 1), Due.NONE);
        }
        FogSchool rested = Due.told("fog 1 1;drunk note 5 loud 9;child at 9 quick 2");
        rested.change(0, 4, 10);
        DUE.is("21: a clear day alone will do", rested.fogFor(0, 1, 2), 0);
        DUE.is("21: the last place", Due.told("keeper;child at 6").fogFor(5, 1, 6), 1);
        DUE.is("21: the last place, too early", Due.told("keeper;child at 6").fogFor(5, 1, 5), Due.NONE);
    }

    private static void hush() {
        DUE.range("22: days", Due::some, 0, 20, FogSchool::hush);
        // The fog of place 1 comes on DAY 19 for the fourth time: note 0 then.
        FogSchool late = Due.told("fog 1 1;keeper note 9;child");
        DUE.is("22: behind 19 days", late.hush(19), 0);
        DUE.is("22: behind 20 days", late.hush(20), 1);
        FogSchool all = Due.told("fog 0 1;hum;hum;hum;hum;hum;hum;hum;hum;child");
        DUE.is("22: all eight", all.hush(1), 255);
        DUE.is("22: behind 0 days", all.hush(0), 0);
        all.change(0, 5, 1);
        DUE.is("22: the first is silent already", all.hush(1), 254);
        all.change(7, 5, 1);
        DUE.is("22: the last is, too", all.hush(20), 126);
        all.teach(0, 2, 1);
        DUE.is("22: a hum has no more to teach", all.hush(20), 0);
        // Keeper 1's note builds on keeper 0's: with that one silent it teaches nobody.
        FogSchool chain = Due.told("fog 0 1;keeper;keeper note 1;keeper note 2;child");
        DUE.is("22: who begins, alone", chain.hush(1), 1);
        chain.teach(0, 2, 1);
        DUE.is("22: who goes on, alone", chain.hush(1), 2);
        chain.teach(0, 2, 3);
        DUE.is("22: who goes on from there, alone", chain.hush(1), 4);
        DUE.is("22: no children", Due.told("fog 0 1;hum").hush(20), 0);
        DUE.is("22: no keepers", Due.told("fog 0 1;child").hush(20), 0);
        DUE.is("22: nothing is kept silent", all.of(1, 5), 0);
    }

    private static void fits() {
        DUE.range("23: sheet", LearningEdgesTest::withSheets, 0, 3, (x, v) -> x.fits(v, 0));
        DUE.range("23: child of two", LearningEdgesTest::withSheets, 0, 1, (x, v) -> x.fits(0, v));
        FogSchool x = new FogSchool();
        DUE.is("23: no such sheet, no such child", x.fits(4, 0), Due.BEYOND);
        DUE.is("23: a missing sheet, no such child", x.fits(3, 0), Due.MISSING);
        x.sheet(3, 8, 0);
        DUE.is("23: a sheet, no such child", x.fits(3, 0), Due.BEYOND);
        x.child(0, 5);
        DUE.is("23: a sheet without numbers", x.fits(3, 0), 10);
        x.sheet(3, 0, 0);
        DUE.is("23: missing again", x.fits(3, 0), Due.MISSING);
        // Behind so many kinds in one day: who is quick as the slowest asks has them all.
        FogSchool y = Due.told("fog 0 1;hum;keeper note 1;echo note 9;child quick 0");
        int[] learnt = {1, 3, 7, 0, 2};
        int[] fitting = {3, 4, 3, 0, 0};
        for (int i = 0; i < learnt.length; i++) {
            Due.sheetOf(y, 0, 8, 0, learnt[i]);
            DUE.is("23: " + learnt[i] + " behind a day", y.fits(0, 0), fitting[i]);
        }
        y.teach(0, 2, 4095);
        for (int bits = 16; bits <= 32; bits += 16) {
            Due.sheetOf(y, 0, bits, 4095, -1, 4095);
            DUE.is("23: all notes in " + bits + " bits", y.fits(0, 0), 10);
            Due.sheetOf(y, 0, bits, 4095, -2, 4095);
            DUE.is("23: -2 isn't any", y.fits(0, 0), 0);
        }
    }

    private static FogSchool withSheets() {
        FogSchool x = Due.some();
        for (int s = 0; s <= 3; s++) {
            x.sheet(s, 32, 2);
        }
        return x;
    }

    /** The fog of place 2 comes on DAY 38 for the seventh time: note 0 then, so the 40th number is the first that tells it. */
    private static void fitsToTheEnd() {
        FogSchool x = Due.told("fog 2 1;keeper note 6;child");
        x.sheet(0, 8, 40);
        DUE.is("23: 40 numbers, not one learnt", x.fits(0, 0), 3);
        x.write(0, 39, 1);
        DUE.is("23: the 40th tells a note", x.fits(0, 0), 7);
        x.write(0, 39, -1);
        DUE.is("23: the 40th is any", x.fits(0, 0), 10);
        x.write(0, 38, 1);
        DUE.is("23: the 39th tells too early", x.fits(0, 0), 0);
        x.write(0, 38, 0);
        x.write(0, 0, 1);
        DUE.is("23: the first tells too early", x.fits(0, 0), 0);
        x.teach(0, 2, 1);
        x.sheet(0, 8, 1);
        x.write(0, 0, 1);
        DUE.is("23: the first alone", x.fits(0, 0), 10);
    }

    private static void kinds() {
        DUE.range("24: sheet", LearningEdgesTest::withSheets, 0, 3, (x, v) -> x.kinds(v, 0));
        DUE.range("24: keeper of three", LearningEdgesTest::withSheets, 0, 2, (x, v) -> x.kinds(0, v));
        FogSchool x = new FogSchool();
        DUE.is("24: no such sheet, no such keeper", x.kinds(4, 0), Due.BEYOND);
        DUE.is("24: a missing sheet, no such keeper", x.kinds(3, 0), Due.MISSING);
        x.sheet(3, 8, 0);
        DUE.is("24: a sheet, no such keeper", x.kinds(3, 0), Due.BEYOND);
        x.keeper(0, 0);
        DUE.is("24: a sheet without numbers", x.kinds(3, 0), 127);
        x.sheet(3, 0, 0);
        DUE.is("24: missing again", x.kinds(3, 0), Due.MISSING);
        // From note 11 on: each kind's first step.
        FogSchool y = Due.told("fog 0 1;keeper note 11");
        int[] next = {0, 1, 5, 11, 10, 2, -1, -2, 12};
        int[] fitting = {7, 64, 8, 16, 32, 0, 127, 0, 0};
        for (int i = 0; i < next.length; i++) {
            Due.sheetOf(y, 0, 8, 11, next[i]);
            DUE.is("24: from 11 to " + next[i], y.kinds(0, 0), fitting[i]);
        }
        Due.sheetOf(y, 0, 8, -1);
        DUE.is("24: any", y.kinds(0, 0), 127);
        Due.sheetOf(y, 0, 8, 0);
        DUE.is("24: not now", y.kinds(0, 0), 0);
    }

    /** The fog of place 2 comes on DAY 38 for the seventh time: the 40th number is the first that tells so. */
    private static void kindsToTheEnd() {
        FogSchool x = Due.told("fog 2 1;elder");
        x.sheet(0, 8, 40);
        DUE.is("24: 40 numbers, never another note", x.kinds(0, 0), 16);
        for (int i = 0; i < 39; i++) {
            x.write(0, i, (i + 3) / 6);
        }
        x.write(0, 39, 6);
        DUE.is("24: the 40th tells too late", x.kinds(0, 0), 0);
        x.write(0, 39, 7);
        DUE.is("24: the 40th tells in time", x.kinds(0, 0), 7);
        x.write(0, 39, -1);
        DUE.is("24: the 40th is any", x.kinds(0, 0), 7);
        x.write(0, 38, 7);
        DUE.is("24: the 39th tells too early", x.kinds(0, 0), 0);
    }
}
