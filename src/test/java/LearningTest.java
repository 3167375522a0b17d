/** Promises 13 to 24: what will be, how to learn, told learning. */
public final class LearningTest {
    private static final Due DUE = new Due("LearningTest");

    public static void main(String[] args) {
        ahead();
        later();
        learnsAndTaught();
        weary();
        seatFor();
        quickFor();
        kindFor();
        fogFor();
        hush();
        fits();
        kinds();
        DUE.end();
    }

    private static void ahead() {
        FogSchool x = Due.inFog(2);
        DUE.is("13: no keeper", x.ahead(0, 2, 0), Due.BEYOND);
        x.keeper(0, 0);
        x.keeper(2, 0);
        DUE.is("13: note", x.ahead(0, 2, 13), 1);
        DUE.is("13: tired", x.ahead(0, 4, 49), 98);
        DUE.is("13: 99 at most", x.ahead(0, 4, 100), 99);
        DUE.is("13: given", x.ahead(0, 6, 5), 5);
        DUE.is("13: drunk's note turns on even days", x.ahead(1, 2, 5), 3);
        DUE.is("13: drunk's given", x.ahead(1, 6, 5), (3 + 25) % 12);
        DUE.is("13: now", x.ahead(0, 2, 0), 0);
        DUE.is("13: 101 days", x.ahead(0, 2, 101), Due.BEYOND);
        DUE.is("13: -1 days", x.ahead(0, 2, -1), Due.BEYOND);
        for (int what = -1; what < 12; what++) {
            boolean isTold = what == 2 || what == 4 || what == 6;
            DUE.is("13: what " + what, x.ahead(0, what, 1), isTold ? what == 4 ? 2 : 1 : Due.BEYOND);
        }
        DUE.is("13: nothing changes", x.now(0) + x.now(5), 0);
    }

    private static void later() {
        FogSchool x = Due.inFog(2);
        DUE.is("14: no child", x.later(0, 2, 0), Due.BEYOND);
        x.keeper(0, 0);
        x.child(9, 9);
        x.child(5, 3);
        x.child(5, 2);
        DUE.is("14: too far", x.later(0, 2, 100), 0);
        DUE.is("14: learnt", x.later(1, 2, 4), 15);
        DUE.is("14: missed", x.later(2, 3, 3), 7);
        DUE.is("14: now", x.later(1, 2, 0), 0);
        DUE.is("14: 100 days", x.later(1, 2, 100), 4095);
        DUE.is("14: 101 days", x.later(1, 2, 101), Due.BEYOND);
        DUE.is("14: -1 days", x.later(1, 2, -1), Due.BEYOND);
        DUE.is("14: what 1", x.later(1, 1, 1), Due.BEYOND);
        DUE.is("14: what 4", x.later(1, 4, 1), Due.BEYOND);
        DUE.is("14: child 3", x.later(3, 2, 1), Due.BEYOND);
        DUE.is("14: nothing changes", x.now(0) + x.now(1), 0);
    }

    private static void learnsAndTaught() {
        FogSchool x = Due.inFog(2);
        DUE.is("15: no child", x.learns(0, 0), Due.BEYOND);
        DUE.is("16: nobody", x.taught(11), 0);
        x.keeper(0, 3);
        x.child(3, 3);
        x.child(8, 3);
        x.teach(1, 2, 1);
        DUE.is("15: note 0", x.learns(0, 0), 1);
        DUE.is("15: note 11", x.learns(0, 11), 12);
        DUE.is("15: it has it", x.learns(1, 0), 0);
        DUE.is("15: note 12", x.learns(0, 12), Due.BEYOND);
        DUE.is("15: note -1", x.learns(0, -1), Due.BEYOND);
        DUE.is("15: child 2", x.learns(2, 0), Due.BEYOND);
        DUE.is("16: all", x.taught(0), 1);
        DUE.is("16: note 4", x.taught(4), 5);
        DUE.is("16: note 12", x.taught(12), Due.BEYOND);
        DUE.is("16: note -1", x.taught(-1), Due.BEYOND);
        x.teach(1, 0, 9);
        DUE.is("15: one too far", x.learns(1, 5), Due.NONE);
        DUE.is("16: one too far", x.taught(5), Due.NONE);
        DUE.is("15: nothing changes", x.now(0), 0);
        FogSchool y = new FogSchool();
        y.fog(1, 1);
        y.keeper(0, 0);
        y.child(0, 9);
        y.change(0, 2, 9);
        DUE.is("15: note 0 is the fourth given", y.learns(0, 0), 6 * 3 + 2);
        DUE.is("15: note 11 is the fifteenth given", y.learns(0, 11), 6 * 14 + 2);
        // With fog on one odd day in six a poet gives each time the note below: so a child learns each 11th.
        y.change(0, 0, 3);
        y.change(0, 2, 11);
        DUE.is("15: behind 200 days", y.learns(0, 3), 200);
        DUE.is("16: behind 200 days", y.taught(3), 200);
        y.change(0, 2, 0);
        DUE.is("15: behind 206 days", y.learns(0, 3), Due.NONE);
        DUE.is("16: behind 206 days", y.taught(3), Due.NONE);
        FogSchool z = new FogSchool();
        z.go(5);
        z.fog(1, 1);
        Due.read(z, "poet note 5;child quick 9");
        DUE.is("15: behind 135 days", z.learns(0, 2), 6 * 22 + 3);
        DUE.is("15: behind 201 days", z.learns(0, 3), Due.NONE);
        DUE.is("16: behind 201 days", z.taught(3), Due.NONE);
    }

    private static void weary() {
        FogSchool x = Due.inFog(2);
        DUE.is("17: no keeper", x.weary(0, 0), Due.BEYOND);
        x.keeper(0, 0);
        x.keeper(4, 0);
        x.keeper(1, 0);
        DUE.is("17: 0", x.weary(1, 0), 0);
        DUE.is("17: 20", x.weary(0, 20), 10);
        DUE.is("17: 21", x.weary(0, 21), 11);
        DUE.is("17: 99", x.weary(0, 99), 50);
        DUE.is("17: a hum never", x.weary(1, 1), Due.NONE);
        DUE.is("17: v 100", x.weary(0, 100), Due.BEYOND);
        DUE.is("17: v -1", x.weary(0, -1), Due.BEYOND);
        DUE.is("17: keeper 3", x.weary(3, 0), Due.BEYOND);
        x.change(0, 5, 1);
        DUE.is("17: a silent one never", x.weary(0, 1), Due.NONE);
        DUE.is("17: nothing changes", x.now(0), 0);
        // A head tires by 1 a day and rests by 3 on the fourth of six: 68 more behind 200 days, 69 behind 201.
        x.fog(3, 0);
        x.change(2, 4, 31);
        DUE.is("17: behind 200 days", x.weary(2, 99), 200);
        x.change(2, 4, 30);
        DUE.is("17: behind 201 days", x.weary(2, 99), Due.NONE);
    }

    private static void seatFor() {
        FogSchool x = Due.inFog(1);
        DUE.is("18: no child", x.seatFor(0, 1), Due.BEYOND);
        x.child(4, 3);
        x.keeper(0, 10);
        x.change(0, 3, 2);
        DUE.is("18: the first in reach", x.seatFor(0, 1), 8);
        DUE.is("18: 0 days", x.seatFor(0, 0), 0);
        DUE.is("18: 60 days", x.seatFor(0, 60), 8);
        x.keeper(0, 14);
        x.change(1, 3, 2);
        x.change(1, 2, 1);
        DUE.is("18: between two", x.seatFor(0, 2), 12);
        DUE.is("18: 61 days", x.seatFor(0, 61), Due.BEYOND);
        DUE.is("18: -1 days", x.seatFor(0, -1), Due.BEYOND);
        DUE.is("18: child 1", x.seatFor(1, 1), Due.BEYOND);
        DUE.is("18: nothing changes", x.ofChild(0, 0), 4);
    }

    private static void quickFor() {
        FogSchool x = Due.inFog(1);
        DUE.is("19: no child", x.quickFor(0, 1, 1), Due.BEYOND);
        x.child(0, 9);
        x.keeper(5, 0);
        x.change(0, 2, 11);
        DUE.is("19: as an echo asks", x.quickFor(0, 0, 1), 7);
        DUE.is("19: too early", x.quickFor(0, 1, 1), Due.NONE);
        DUE.is("19: 0 days", x.quickFor(0, 0, 0), Due.NONE);
        x.keeper(0, 0);
        DUE.is("19: as a keeper asks", x.quickFor(0, 5, 6), 3);
        DUE.is("19: 60 days", x.quickFor(0, 11, 60), 3);
        x.teach(0, 2, 32);
        DUE.is("19: it has it", x.quickFor(0, 5, 0), 0);
        DUE.is("19: note 12", x.quickFor(0, 12, 1), Due.BEYOND);
        DUE.is("19: note -1", x.quickFor(0, -1, 1), Due.BEYOND);
        DUE.is("19: 61 days", x.quickFor(0, 1, 61), Due.BEYOND);
        DUE.is("19: -1 days", x.quickFor(0, 1, -1), Due.BEYOND);
        DUE.is("19: child 1", x.quickFor(1, 1, 1), Due.BEYOND);
        DUE.is("19: nothing changes", x.ofChild(0, 1), 9);
    }

    private static void kindFor() {
        FogSchool x = Due.inFog(1);
        DUE.is("20: no keeper", x.kindFor(0, 1), Due.BEYOND);
        x.keeper(5, 0);
        DUE.is("20: nobody learns", x.kindFor(0, 9), 0);
        x.child(0, 0);
        DUE.is("20: a hum for the slow", x.kindFor(0, 9), 4);
        x.child(8, 5);
        x.child(8, 5);
        DUE.is("20: a head for the far", x.kindFor(0, 9), 1);
        x.teach(1, 0, 5);
        x.teach(1, 1, 3);
        x.teach(2, 0, 5);
        DUE.is("20: a keeper", x.kindFor(0, 60), 0);
        DUE.is("20: 0 days", x.kindFor(0, 0), 0);
        DUE.is("20: 61 days", x.kindFor(0, 61), Due.BEYOND);
        DUE.is("20: -1 days", x.kindFor(0, -1), Due.BEYOND);
        DUE.is("20: keeper 1", x.kindFor(1, 1), Due.BEYOND);
        DUE.is("20: nothing changes", x.of(0, 0), 5);
    }

    private static void fogFor() {
        FogSchool x = new FogSchool();
        DUE.is("21: nobody, none asked", x.fogFor(0, 0, 5), 9);
        DUE.is("21: nobody, one asked", x.fogFor(0, 1, 5), Due.NONE);
        x.keeper(0, 0);
        x.child(4, 3);
        DUE.is("21: reach 4 at the thickest", x.fogFor(0, 1, 1), 5);
        DUE.is("21: too many", x.fogFor(0, 2, 6), Due.NONE);
        DUE.is("21: behind two rounds", x.fogFor(5, 2, 12), 5);
        DUE.is("21: none asked", x.fogFor(3, 0, 60), 9);
        DUE.is("21: the other places teach", fogForNext(x), 9);
        DUE.is("21: 73 notes", x.fogFor(0, 73, 1), Due.BEYOND);
        DUE.is("21: -1 notes", x.fogFor(0, -1, 1), Due.BEYOND);
        DUE.is("21: place 6", x.fogFor(6, 0, 1), Due.BEYOND);
        DUE.is("21: place -1", x.fogFor(-1, 0, 1), Due.BEYOND);
        DUE.is("21: 61 days", x.fogFor(0, 0, 61), Due.BEYOND);
        DUE.is("21: -1 days", x.fogFor(0, 0, -1), Due.BEYOND);
        DUE.is("21: 72 notes, 60 days", x.fogFor(0, 72, 60), Due.NONE);
        DUE.is("21: nothing changes", x.listed(0), 0);
        x.fog(1, 1);
        x.change(0, 2, 11);
        DUE.is("21: the note ahead of 0 may be given to nobody", x.fogFor(0, 1, 2), 9);
        x.change(0, 2, 0);
        DUE.is("21: note 0 may not", x.fogFor(0, 1, 2), 5);
        FogSchool y = new FogSchool();
        y.fog(1, 1);
        Due.read(y, "drunk note 5 loud 9;child at 9 quick 2");
        y.change(0, 4, 10);
        DUE.is("21: a drunk must rest first", y.fogFor(0, 1, 2), 0);
    }

    private static int fogForNext(FogSchool x) {
        x.fog(1, 2);
        int thickest = x.fogFor(2, 1, 6);
        x.fog(1, 0);
        return thickest;
    }

    private static void hush() {
        FogSchool x = Due.inFog(1);
        DUE.is("22: nobody", x.hush(20), 0);
        x.child(0, 4);
        x.keeper(1, 0);
        x.keeper(0, 0);
        x.keeper(0, 15);
        x.keeper(4, 15);
        DUE.is("22: who teach at once", x.hush(1), 2 + 8);
        DUE.is("22: 0 days", x.hush(0), 0);
        x.change(1, 2, 5);
        x.change(3, 5, 1);
        DUE.is("22: a note that can't be learnt yet", x.hush(7), 0);
        DUE.is("22: note 0 comes round", x.hush(8), 2);
        DUE.is("22: 20 days", x.hush(20), 2);
        x.change(1, 5, 1);
        DUE.is("22: who is silent isn't silenced", x.hush(20), 0);
        x.change(1, 5, 0);
        x.teach(0, 2, 4095);
        DUE.is("22: no more to learn", x.hush(20), 0);
        DUE.is("22: 21 days", x.hush(21), Due.BEYOND);
        DUE.is("22: -1 days", x.hush(-1), Due.BEYOND);
        DUE.is("22: nothing changes", x.of(1, 5) + x.now(0), 0);
    }

    private static void fits() {
        FogSchool x = Due.inFog(1);
        DUE.is("23: sheet 4", x.fits(4, 0), Due.BEYOND);
        DUE.is("23: sheet -1", x.fits(-1, 0), Due.BEYOND);
        DUE.is("23: missing ahead of the child", x.fits(0, 0), Due.MISSING);
        Due.sheetOf(x, 0, 16, 0, 1, 3);
        DUE.is("23: no child", x.fits(0, 0), Due.BEYOND);
        DUE.is("23: child -1", x.fits(0, -1), Due.BEYOND);
        x.keeper(0, 0);
        x.child(0, 0);
        DUE.is("23: quick ones", x.fits(0, 0), 7);
        Due.sheetOf(x, 1, 8, 0, 0, 0);
        DUE.is("23: slow ones", x.fits(1, 0), 3);
        Due.sheetOf(x, 1, 8, -1, -1, 3);
        DUE.is("23: any, in 8 bits", x.fits(1, 0), 7);
        Due.sheetOf(x, 1, 32, -1, -1, -1);
        DUE.is("23: all any", x.fits(1, 0), 10);
        Due.sheetOf(x, 1, 32);
        DUE.is("23: nothing told", x.fits(1, 0), 10);
        Due.sheetOf(x, 1, 32, 1, -1);
        DUE.is("23: not so now", x.fits(1, 0), 0);
        Due.sheetOf(x, 1, 32, 0, 1, 4);
        DUE.is("23: not so at the end", x.fits(1, 0), 0);
        x.keeper(1, 0);
        x.change(1, 2, 1);
        Due.sheetOf(x, 1, 16, 0, 1, 3);
        DUE.is("23: quick for one, not for the other", x.fits(1, 0), 2);
        DUE.is("23: nothing changes", x.now(0) + x.ofChild(0, 1), 0);
    }

    private static void kinds() {
        FogSchool x = Due.inFog(1);
        DUE.is("24: sheet 4", x.kinds(4, 0), Due.BEYOND);
        DUE.is("24: missing ahead of the keeper", x.kinds(0, 0), Due.MISSING);
        Due.sheetOf(x, 0, 8, 0, 1, 2);
        DUE.is("24: no keeper", x.kinds(0, 0), Due.BEYOND);
        DUE.is("24: keeper -1", x.kinds(0, -1), Due.BEYOND);
        x.keeper(5, 0);
        DUE.is("24: keeper, head", x.kinds(0, 0), 3);
        int[][] told = {{0, 2}, {0, 1, 1}, {0, 6, 11}, {0, 0}, {0, 11}, {0, -1}, {}, {1}, {-1, 1}, {0, -1, -1, 0}};
        int[] want = {64, 4, 8, 16, 32, 127, 127, 0, 7, 16};
        for (int i = 0; i < told.length; i++) {
            Due.sheetOf(x, 3, 8, told[i]);
            DUE.is("24: told " + i, x.kinds(3, 0), want[i]);
        }
        x.change(0, 5, 1);
        Due.sheetOf(x, 3, 32, 0, 0, 0);
        DUE.is("24: silent ones are all alike", x.kinds(3, 0), 127);
        DUE.is("24: nothing changes", x.now(0) * 10 + x.of(0, 0), 5);
    }
}
