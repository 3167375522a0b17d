/** The limits that the document's Terms name, each on both of its sides. */
public final class TermsEdgesTest {
    private static final Due DUE = new Due("TermsEdgesTest");

    public static void main(String[] args) {
        findings();
        lastCall();
        cells();
        list();
        mostKeepersAndChildren();
        firstValues();
        gives();
        reaches();
        tempo();
        tires();
        rests();
        turns();
        reachOfADay();
        noteAhead();
        missed();
        leastFog();
        draws();
        DUE.end();
    }

    /** The numbers themselves, as the document tells them: LOW and what lies below it. */
    private static void findings() {
        FogSchool x = Due.most();
        DUE.is("BEYOND", x.listed(6), -1000001);
        DUE.is("BEYOND in a long", x.odds(0, 0, 18, 0), -1000001L);
        DUE.is("FULL", x.keeper(0, 0), -1000002);
        x.hold(0, 0);
        DUE.is("KIND", x.as(0, 1), -1000003);
        DUE.is("NONE", x.undo(), -1000004);
        DUE.is("MISSING", x.load(0), -1000006);
        DUE.is("SIZE", x.sheet(0, 8, -1), -1000007);
        for (int i = 0; i < 1666; i++) {
            x.go(60);
        }
        DUE.is("STATE", x.go(40), -1000005);
    }

    private static void lastCall() {
        FogSchool x = new FogSchool();
        for (int call = 1; call < 512; call++) {
            x.listed(6);
        }
        DUE.is("the 512th call", x.status(0), 511);
    }

    /** Cells stand in a row: the last isn't beside the first. */
    private static void cells() {
        FogSchool x = Due.told("keeper loud 15;keeper at 15 loud 15;keeper loud 1;keeper at 15 loud 1;hum", "child;child at 15");
        DUE.is("cell 0 in a fog of 1", x.hears(0, 1), 1 + 2 + 4 + 16);
        DUE.is("cell 15 in a fog of 1", x.hears(1, 1), 1 + 2 + 8 + 16);
        DUE.is("cell 0 in a fog of 2", x.hears(0, 2), 1 + 4 + 16);
        DUE.is("cell 15 in a fog of 2", x.hears(1, 2), 2 + 8 + 16);
    }

    private static void list() {
        FogSchool x = Due.told("fog 0 1;fog 1 2;fog 2 3;fog 3 4;fog 4 5;fog 5 6");
        for (int day = 0; day <= 13; day++) {
            DUE.is("the fog of day " + day, x.now(7), day % 6 + 1);
            x.go(1);
        }
        FogSchool clear = new FogSchool();
        for (int i = 0; i < 6; i++) {
            DUE.is("clear at first in place " + i, clear.listed(i), 0);
        }
    }

    private static void mostKeepersAndChildren() {
        FogSchool x = new FogSchool();
        for (int k = 0; k < 8; k++) {
            DUE.is("keeper " + k, x.keeper(0, 0), k);
        }
        DUE.is("a 9th keeper", x.keeper(0, 0), Due.FULL);
        for (int c = 0; c < 6; c++) {
            DUE.is("child " + c, x.child(0, 0), c);
        }
        DUE.is("a 7th child", x.child(0, 0), Due.FULL);
        DUE.is("eight keepers", x.count(1), 8);
        DUE.is("six children", x.count(2), 6);
    }

    private static void firstValues() {
        for (int kind = 0; kind <= 6; kind++) {
            FogSchool x = new FogSchool();
            x.keeper(kind, 7);
            int[] first = {kind, 7, 0, 6, 0, 0};
            for (int what = 0; what <= 5; what++) {
                DUE.is("at first, kind " + kind + " what " + what, x.of(0, what), first[what]);
            }
        }
        FogSchool x = Due.told("child");
        int[] first = {0, 3, 0, 0};
        for (int what = 0; what <= 3; what++) {
            DUE.is("a child at first, what " + what, x.ofChild(0, what), first[what]);
        }
    }

    private static void gives() {
        int[][] rows = {
            // kind, NOTE, TIRED, DAY, what it GIVES
            {0, 0, 99, 1, 0}, {0, 11, 99, 1, 11}, {1, 0, 99, 1, 0}, {1, 11, 99, 1, 11},
            {6, 0, 0, 0, 11}, {6, 1, 0, 0, 0}, {6, 11, 99, 1, 10},
            {2, 0, 0, 5, 0}, {2, 0, 11, 0, 11}, {2, 0, 12, 0, 0}, {2, 11, 0, 0, 11}, {2, 11, 1, 0, 0}, {2, 0, 99, 0, 3}, {2, 11, 99, 1, 2},
            {3, 0, 0, 0, 0}, {3, 0, 0, 11, 11}, {3, 0, 0, 12, 0}, {3, 11, 0, 1, 0}, {3, 10, 0, 1, 11}, {3, 0, 99, 8, 11}, {3, 0, 99, 9, 0},
            {3, 11, 99, 60, 2},
            {4, 0, 0, 0, 0}, {4, 11, 99, 1, 0}, {5, 0, 99, 1, 11}, {5, 1, 0, 0, 10}, {5, 11, 0, 0, 0}};
        for (int[] row : rows) {
            FogSchool x = new FogSchool();
            pass(x, row[3]);
            x.keeper(row[0], 0);
            x.change(0, 2, row[1]);
            x.change(0, 4, row[2]);
            DUE.is("GIVES of kind " + row[0] + " note " + row[1] + " tired " + row[2] + " day " + row[3], x.of(0, 6), row[4]);
        }
    }

    private static void pass(FogSchool x, int days) {
        if (days > 0) {
            x.go(days);
        }
    }

    private static void reaches() {
        int[][] rows = {
            // kind, LOUD, TIRED, FOG, how far it REACHES
            {0, 0, 0, 0, 0}, {0, 0, 0, 9, 0}, {0, 15, 99, 0, 15}, {0, 15, 0, 1, 15}, {0, 15, 0, 2, 14}, {0, 15, 0, 8, 11}, {0, 15, 0, 9, 11},
            {0, 5, 0, 9, 1}, {0, 4, 0, 9, 0}, {0, 3, 0, 9, 0}, {0, 3, 0, 7, 0}, {0, 3, 0, 5, 1}, {0, 1, 0, 3, 0}, {0, 1, 0, 1, 1},
            {1, 0, 0, 0, 2}, {1, 0, 0, 9, 2}, {1, 4, 0, 9, 2}, {1, 5, 0, 9, 3}, {1, 15, 99, 0, 17},
            {6, 0, 0, 9, 2}, {6, 4, 0, 9, 2}, {6, 5, 0, 9, 3}, {6, 15, 99, 1, 17},
            {2, 15, 9, 0, 15}, {2, 15, 10, 0, 14}, {2, 15, 19, 0, 14}, {2, 15, 20, 0, 13}, {2, 15, 89, 0, 7}, {2, 15, 90, 0, 6},
            {2, 15, 99, 0, 6}, {2, 10, 99, 0, 1}, {2, 9, 99, 0, 0}, {2, 8, 99, 0, 0}, {2, 0, 99, 9, 0}, {2, 15, 99, 9, 2}, {2, 13, 99, 9, 0},
            {3, 15, 10, 2, 13}, {3, 15, 9, 1, 15}, {3, 9, 90, 1, 0}, {3, 10, 90, 1, 1}, {3, 0, 99, 9, 0},
            {4, 0, 99, 9, 15}, {4, 15, 0, 0, 15},
            {5, 0, 0, 0, 0}, {5, 1, 0, 0, 0}, {5, 2, 0, 0, 1}, {5, 3, 0, 0, 1}, {5, 15, 99, 0, 7}, {5, 5, 0, 9, 0}, {5, 6, 0, 9, 1}, {5, 3, 0, 9, 0}};
        for (int[] row : rows) {
            FogSchool x = new FogSchool();
            x.keeper(row[0], 0);
            x.change(0, 3, row[1]);
            x.change(0, 4, row[2]);
            x.fog(0, row[3]);
            String what = "REACHES of kind " + row[0] + " loud " + row[1] + " tired " + row[2] + " fog " + row[3];
            DUE.is(what, x.of(0, 7), row[4]);
        }
    }

    /** Just as quick as it must be, a child learns; one less, it misses. Each kind gives note 0 here. */
    private static void tempo() {
        int[] tempo = {3, 5, 2, 4, 0, 7, 6};
        int[] note = {0, 0, 0, 0, 0, 11, 1};
        for (int kind = 0; kind <= 6; kind++) {
            FogSchool x = Due.inFog(1);
            x.keeper(kind, 0);
            x.change(0, 2, note[kind]);
            x.child(0, tempo[kind]);
            x.child(0, Math.max(0, tempo[kind] - 1));
            x.child(0, 9);
            x.go(1);
            DUE.is("TEMPO of kind " + kind, x.of(0, 8), tempo[kind]);
            DUE.is("quick enough for kind " + kind, x.ofChild(0, 2) * 10 + x.ofChild(0, 3), 10);
            DUE.is("one less for kind " + kind, x.ofChild(1, 2) * 10 + x.ofChild(1, 3), tempo[kind] == 0 ? 10 : 1);
            DUE.is("as quick as can be for kind " + kind, x.ofChild(2, 2), 1);
        }
    }

    private static void tires() {
        int[] tires = {2, 1, 5, 5, 0, 0, 3};
        for (int kind = 0; kind <= 6; kind++) {
            for (int tired : new int[] {0, 98 - tires[kind], 99 - tires[kind], Math.min(99, 100 - tires[kind]), 99}) {
                FogSchool x = Due.inFog(1);
                x.keeper(kind, 0);
                x.change(0, 4, tired);
                DUE.is("TIRES of kind " + kind, x.of(0, 9), tires[kind]);
                x.go(1);
                DUE.is("99 at most, kind " + kind + " from " + tired, x.of(0, 4), Math.min(99, tired + tires[kind]));
            }
        }
    }

    private static void rests() {
        int[] tired = {0, 1, 2, 3, 4, 98, 99};
        int[] rested = {0, 0, 0, 0, 1, 95, 96};
        for (int kind = 0; kind <= 6; kind++) {
            FogSchool x = new FogSchool();
            for (int k = 0; k < tired.length; k++) {
                x.keeper(kind, 0);
                x.change(k, 2, 5);
                x.change(k, 4, tired[k]);
                x.change(k, 5, k % 2);
            }
            x.go(1);
            for (int k = 0; k < tired.length; k++) {
                DUE.is("0 at least, kind " + kind + " from " + tired[k], x.of(k, 4), rested[k]);
                DUE.is("no note turns on a clear day", x.of(k, 2), 5);
            }
        }
    }

    private static void turns() {
        int[][] rows = {
            // kind, DAY, NOTE, by how much it TURNS, NOTE behind that
            {0, 0, 10, 1, 11}, {0, 1, 11, 1, 0}, {1, 0, 10, 1, 11}, {1, 1, 11, 1, 0},
            {6, 0, 9, 2, 11}, {6, 1, 10, 2, 0}, {6, 0, 11, 2, 1},
            {2, 0, 10, 1, 11}, {2, 0, 11, 1, 0}, {2, 1, 11, 0, 11}, {2, 58, 11, 1, 0}, {2, 59, 0, 0, 0},
            {3, 0, 5, 6, 11}, {3, 0, 6, 6, 0}, {3, 0, 11, 6, 5}, {3, 1, 6, 5, 11}, {3, 1, 7, 5, 0}, {3, 1, 11, 5, 4},
            {4, 0, 11, 0, 11}, {4, 1, 0, 0, 0}, {5, 0, 0, 11, 11}, {5, 1, 1, 11, 0}, {5, 0, 11, 11, 10}};
        for (int[] row : rows) {
            FogSchool x = new FogSchool();
            pass(x, row[1]);
            for (int i = 0; i < 6; i++) {
                x.fog(i, 1);
            }
            x.keeper(row[0], 0);
            x.change(0, 2, row[2]);
            DUE.is("TURNS of kind " + row[0] + " on day " + row[1], x.of(0, 10), row[3]);
            x.go(1);
            DUE.is("NOTE of kind " + row[0] + " from " + row[2] + " on day " + row[1], x.of(0, 2), row[4]);
        }
    }

    /** A fog of 4 takes 2 of LOUD 5: cells 4 to 10 are within reach of cell 7. */
    private static void reachOfADay() {
        int[] cells = {3, 4, 7, 10, 11};
        FogSchool x = Due.told("fog 0 4;keeper at 7 loud 5");
        for (int cell : cells) {
            x.child(cell, 9);
        }
        DUE.is("three are within reach", x.go(1), 3);
        for (int c = 0; c < cells.length; c++) {
            boolean isWithin = cells[c] >= 4 && cells[c] <= 10;
            DUE.is("learnt at cell " + cells[c], x.ofChild(c, 2), isWithin ? 1 : 0);
            DUE.is("not missed at cell " + cells[c], x.ofChild(c, 3), 0);
        }
        FogSchool y = Due.told("fog 0 9;keeper at 7 loud 0;child at 7;child at 6;child at 8");
        DUE.is("a reach of 0 is the cell itself", y.go(1), 1);
        DUE.is("it is child 0", y.ofChild(0, 2), 1);
    }

    /** Note 0 needs none ahead of it, 1 needs 0, 11 needs 10. */
    private static void noteAhead() {
        int[][] rows = {
            // NOTE given, LEARNT, whether it is learnt
            {0, 0, 1}, {0, 2048, 1}, {1, 0, 0}, {1, 1, 1}, {1, 4, 0}, {11, 1024, 1}, {11, 1023, 0}, {11, 1, 0}, {11, 512, 0}};
        for (int[] row : rows) {
            FogSchool x = Due.told("fog 0 1;keeper;child");
            x.change(0, 2, row[0]);
            x.teach(0, 2, row[1]);
            x.go(1);
            String what = "note " + row[0] + " to one who knows " + row[1];
            DUE.is(what, x.ofChild(0, 2), row[1] | row[2] << row[0]);
            DUE.is(what + ": missed", x.ofChild(0, 3), 1 - row[2] << row[0]);
        }
    }

    private static void missed() {
        FogSchool x = Due.told("fog 0 1;keeper;child quick 3;child quick 2;child quick 2 knows 1;child knows 1");
        for (int c = 0; c < 4; c++) {
            x.teach(c, 3, c == 2 ? 4094 : 4095);
        }
        x.go(1);
        DUE.is("who learns a note misses it no more", x.ofChild(0, 3), 4094);
        DUE.is("who misses it again misses it", x.ofChild(1, 3), 4095);
        DUE.is("who is too slow for what it knows misses nothing", x.ofChild(2, 3), 4094);
        DUE.is("who knew it already still misses it", x.ofChild(3, 3), 4095);
        DUE.is("what it knew stays", x.ofChild(3, 2), 1);
    }

    private static void leastFog() {
        FogSchool x = Due.told("fog 0 0;fog 1 1;keeper;child");
        x.change(0, 4, 50);
        DUE.is("a clear day teaches nothing", x.go(1), 0);
        DUE.is("one rests on it", x.of(0, 4), 47);
        DUE.is("a fog of 1 teaches", x.go(1), 1);
        DUE.is("one tires in it", x.of(0, 4), 49);
    }

    /** The seeds are such that z wraps around, and is below 0 behind the first draw, behind the second, behind both. */
    private static void draws() {
        int[][] rows = {
            // z, first rest by 10, second rest by 8, z behind both
            {0, 8, 6, (int) 3554416254L}, {1, 4, 0, (int) 2524885223L}, {2, 1, 3, 1495354192},
            {Integer.MAX_VALUE, 9, 4, (int) 2436463637L}, {-1, 7, 4, 288979989}, {14, 0, 0, 0}, {84, 1, 0, 0}, {109, 0, 5, 0}, {26, 9, 5, 0}};
        for (int[] row : rows) {
            FogSchool x = Due.told("child;child;child;child;child;child");
            x.seed(row[0]);
            x.autumn(1);
            DUE.is("first rest from " + row[0], x.listed(0), row[1]);
            for (int c = 0; c < 6; c++) {
                DUE.is("cell of child " + c + " from " + row[0], x.ofChild(c, 0), c == row[2] ? 1 : 0);
            }
            if (row[3] != 0) {
                DUE.is("z from " + row[0], x.count(6), row[3]);
            }
        }
        DUE.is("z at first", new FogSchool().count(6), 1);
    }
}
