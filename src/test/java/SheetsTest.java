/** Promises 31 to 42: spots, sheets, images, counts. */
public final class SheetsTest {
    private static final Due DUE = new Due("SheetsTest");

    public static void main(String[] args) {
        hold();
        asKinds();
        sheet();
        write();
        copy();
        load();
        judge();
        images();
        whatAnImageKeeps();
        count();
        status();
        DUE.end();
    }

    private static void hold() {
        FogSchool x = new FogSchool();
        DUE.is("31: no keeper", x.hold(0, 0), Due.BEYOND);
        DUE.is("31: nothing", x.hold(0, -1), 1);
        DUE.is("31: nothing held", x.count(7), 0);
        x.keeper(2, 0);
        DUE.is("31: a keeper", x.hold(9, 0), 1);
        DUE.is("31: again elsewhere", x.hold(0, 0), 1);
        DUE.is("31: two hold", x.count(7), 2);
        DUE.is("31: spot 10", x.hold(10, 0), Due.BEYOND);
        DUE.is("31: spot -1", x.hold(-1, -1), Due.BEYOND);
        DUE.is("31: keeper 1", x.hold(9, 1), Due.BEYOND);
        DUE.is("31: keeper -2", x.hold(9, -2), Due.BEYOND);
        DUE.is("31: held still", x.as(9, 2), 0);
        DUE.is("31: let go", x.hold(9, -1), 1);
        DUE.is("31: gone", x.as(9, 2), Due.MISSING);
    }

    private static void asKinds() {
        int[] above = {1, 1 + 2, 1 + 4, 1 + 4 + 8, 1 + 4 + 8 + 16, 1 + 32, 1 + 2 + 64};
        FogSchool x = new FogSchool();
        for (int kind = 0; kind < 7; kind++) {
            x.keeper(kind, 0);
            x.hold(kind + 2, kind);
        }
        for (int own = 0; own < 7; own++) {
            for (int kind = 0; kind < 7; kind++) {
                boolean isOf = (above[own] & 1 << kind) != 0;
                DUE.is("32: " + own + " as " + kind, x.as(own + 2, kind), isOf ? own : Due.KIND);
            }
        }
        x.change(4, 0, 5);
        DUE.is("32: of another kind now", x.as(6, 3), Due.KIND);
        DUE.is("32: an echo", x.as(6, 5), 4);
        DUE.is("32: nothing", x.as(0, 0), Due.MISSING);
        DUE.is("32: kind 7, ahead of missing", x.as(0, 7), Due.BEYOND);
        DUE.is("32: kind -1", x.as(2, -1), Due.BEYOND);
        DUE.is("32: spot 10", x.as(10, 0), Due.BEYOND);
        DUE.is("32: spot -1", x.as(-1, 0), Due.BEYOND);
    }

    private static void sheet() {
        FogSchool x = new FogSchool();
        DUE.is("33: 40 numbers", x.sheet(0, 8, 40), 40);
        DUE.is("33: no numbers", x.sheet(3, 32, 0), 0);
        DUE.is("33: it isn't missing", x.load(3), 0);
        DUE.is("33: 41", x.sheet(0, 16, 41), Due.BEYOND);
        DUE.is("33: -1", x.sheet(0, 16, -1), Due.SIZE);
        DUE.is("33: -1 with bits 0", x.sheet(0, 0, -1), Due.SIZE);
        DUE.is("33: 41 with bits 0", x.sheet(0, 0, 41), Due.BEYOND);
        DUE.is("33: bits 7 ahead of the size", x.sheet(0, 7, -1), Due.BEYOND);
        DUE.is("33: bits -8", x.sheet(0, -8, 1), Due.BEYOND);
        DUE.is("33: bits 64", x.sheet(0, 64, 1), Due.BEYOND);
        DUE.is("33: sheet 4", x.sheet(4, 8, -1), Due.BEYOND);
        DUE.is("33: sheet -1", x.sheet(-1, 8, 1), Due.BEYOND);
        DUE.is("33: it stays", x.write(0, 39, 5), 1);
        DUE.is("33: bits 0", x.sheet(0, 0, 17), 0);
        DUE.is("33: missing", x.write(0, 0, 5), Due.MISSING);
        Due.sheetOf(x, 1, 8, 3, 3, 3);
        DUE.is("33: anew", x.sheet(1, 8, 3), 3);
        x.fog(0, 9);
        DUE.is("33: all 0", x.load(1), 3);
        DUE.is("33: a 0", x.listed(0), 0);
    }

    /** What a sheet holds shows in judge(): a child has LEARNT what is written, or not. */
    private static void write() {
        FogSchool x = new FogSchool();
        DUE.is("34: missing", x.write(0, 0, 0), Due.MISSING);
        DUE.is("34: sheet 4", x.write(4, 0, 0), Due.BEYOND);
        DUE.is("34: sheet -1", x.write(-1, 0, 0), Due.BEYOND);
        x.child(0, 0);
        int[][] cases = {{8, 256 + 5, 5}, {8, 127, 127}, {16, 65536 + 4095, 4095}, {32, 4095, 4095}};
        for (int[] one : cases) {
            x.sheet(0, one[0], 1);
            DUE.is("34: written", x.write(0, 0, one[1]), 1);
            x.teach(0, 2, one[2]);
            DUE.is("34: lowest bits of " + one[1], x.judge(0), 0);
        }
        x.write(0, 0, 65536 + 4095);
        DUE.is("34: all of 32 bits", x.judge(0), 1);
        x.sheet(0, 8, 1);
        x.write(0, 0, 255);
        x.teach(0, 2, 255);
        DUE.is("34: 255 is -1 in 8 bits", x.judge(0), 1);
        DUE.is("34: which is any", x.fits(0, 0), 10);
        DUE.is("34: number 1", x.write(0, 1, 0), Due.BEYOND);
        DUE.is("34: number -1", x.write(0, -1, 0), Due.BEYOND);
        x.sheet(0, 8, 0);
        DUE.is("34: none to write", x.write(0, 0, 0), Due.BEYOND);
    }

    private static void copy() {
        FogSchool x = new FogSchool();
        DUE.is("35: missing", x.copy(0, 0, 1, 0, 0), Due.MISSING);
        DUE.is("35: sheet 4", x.copy(4, 0, 0, 0, 0), Due.BEYOND);
        DUE.is("35: to sheet 4, ahead of missing", x.copy(0, 0, 4, 0, 0), Due.BEYOND);
        DUE.is("35: to sheet -1", x.copy(0, 0, -1, 0, 0), Due.BEYOND);
        Due.sheetOf(x, 0, 8, 1, 2, 3, 4, 5, 6);
        DUE.is("35: one is missing", x.copy(0, 0, 1, 0, 0), Due.MISSING);
        Due.sheetOf(x, 1, 16, 9, 9, 9, 9);
        DUE.is("35: other bits, ahead of beyond", x.copy(0, -1, 1, 0, 99), Due.KIND);
        Due.sheetOf(x, 1, 8, 9, 9, 9, 9);
        DUE.is("35: three", x.copy(0, 2, 1, 1, 3), 3);
        checkFogs(x, 1, 9, 3, 4, 5);
        DUE.is("35: to itself, up", x.copy(0, 0, 0, 1, 5), 5);
        checkFogs(x, 0, 1, 1, 2, 3, 4, 5);
        DUE.is("35: to itself, down", x.copy(0, 2, 0, 0, 4), 4);
        checkFogs(x, 0, 2, 3, 4, 5, 4, 5);
        DUE.is("35: none at the end", x.copy(0, 6, 1, 4, 0), 0);
        DUE.is("35: none behind the end", x.copy(0, 7, 1, 4, 0), Due.BEYOND);
        DUE.is("35: too many to give", x.copy(1, 0, 0, 0, 5), Due.BEYOND);
        DUE.is("35: too many to take", x.copy(0, 0, 1, 0, 5), Due.BEYOND);
        DUE.is("35: from -1", x.copy(0, -1, 1, 0, 1), Due.BEYOND);
        DUE.is("35: to -1", x.copy(0, 0, 1, -1, 1), Due.BEYOND);
        DUE.is("35: -1 of them", x.copy(0, 0, 1, 0, -1), Due.BEYOND);
        int most = Integer.MAX_VALUE;
        DUE.is("35: most of all", x.copy(0, most, 1, most, most), Due.BEYOND);
        DUE.is("35: most from 1 on", x.copy(0, 1, 1, 1, most), Due.BEYOND);
    }

    private static void checkFogs(FogSchool x, int s, int... fogs) {
        DUE.is("35: loaded", x.load(s), fogs.length);
        for (int i = 0; i < fogs.length; i++) {
            DUE.is("35: number " + i, x.listed(i), fogs[i]);
        }
    }

    private static void load() {
        FogSchool x = Due.inFog(7);
        DUE.is("36: missing", x.load(0), Due.MISSING);
        DUE.is("36: sheet 4", x.load(4), Due.BEYOND);
        DUE.is("36: sheet -1", x.load(-1), Due.BEYOND);
        Due.sheetOf(x, 0, 16, 1, 0, 9, 10, 2);
        DUE.is("36: up to the 10", x.load(0), 3);
        DUE.is("36: place 1", x.listed(1), 0);
        DUE.is("36: place 2", x.listed(2), 9);
        DUE.is("36: place 3 stays", x.listed(3), 7);
        Due.sheetOf(x, 0, 8, 5, -1, 5);
        DUE.is("36: up to the -1", x.load(0), 1);
        Due.sheetOf(x, 0, 32, 1, 2, 3, 4, 5, 6, 7, 8);
        DUE.is("36: six places", x.load(0), 6);
        DUE.is("36: the last place", x.listed(5), 6);
        Due.sheetOf(x, 0, 32);
        DUE.is("36: none", x.load(0), 0);
    }

    private static void judge() {
        FogSchool x = new FogSchool();
        DUE.is("37: missing", x.judge(0), Due.MISSING);
        DUE.is("37: sheet 4", x.judge(4), Due.BEYOND);
        DUE.is("37: sheet -1", x.judge(-1), Due.BEYOND);
        Due.sheetOf(x, 0, 32);
        DUE.is("37: nothing told", x.judge(0), 0);
        Due.sheetOf(x, 0, 32, 0, 4095);
        DUE.is("37: nobody", x.judge(0), 1);
        x.child(0, 0);
        DUE.is("37: no second", x.judge(0), 2);
        x.child(0, 0);
        DUE.is("37: the second isn't so", x.judge(0), 2);
        x.teach(1, 2, 4095);
        DUE.is("37: so", x.judge(0), 0);
        x.child(0, 0);
        DUE.is("37: of the third nothing is told", x.judge(0), 0);
        Due.sheetOf(x, 0, 32, -1);
        DUE.is("37: -1 is no set", x.judge(0), 1);
    }

    private static void images() {
        FogSchool x = new FogSchool();
        DUE.is("39: nothing kept", x.undo(), Due.NONE);
        DUE.is("40: nothing kept", x.tear(), 0);
        x.go(3);
        DUE.is("38: kept", x.image(), 1);
        x.go(4);
        DUE.is("39: as it was", x.undo(), 3);
        x.go(60);
        DUE.is("39: it stays", x.undo(), 3);
        x.go(1);
        DUE.is("38: kept anew", x.image(), 1);
        x.go(1);
        DUE.is("39: the latest", x.undo(), 4);
        DUE.is("40: torn", x.tear(), 1);
        DUE.is("40: already", x.tear(), 0);
        DUE.is("39: none", x.undo(), Due.NONE);
        DUE.is("39: the day stays", x.now(0), 4);
        DUE.is("39: findings aren't taken back", x.status(3), 2);
    }

    private static void whatAnImageKeeps() {
        FogSchool x = Due.inFog(2);
        x.keeper(1, 4);
        x.child(3, 5);
        x.hold(2, 0);
        x.seed(77);
        x.image();
        Due.feedAll(x, "hum");
        Due.sheetOf(x, 0, 8, 0);
        x.fog(1, 9);
        x.keeper(0, 15);
        x.change(1, 2, 5);
        x.child(1, 1);
        x.teach(1, 2, 9);
        x.hold(2, -1);
        x.hold(3, 1);
        x.change(0, 3, 1);
        x.change(0, 0, 2);
        x.autumn(5);
        DUE.is("39: day", x.undo(), 0);
        DUE.is("39: keepers", x.count(1), 1);
        DUE.is("39: children", x.count(2), 1);
        DUE.is("39: z", x.count(6), 77);
        DUE.is("39: fog", x.listed(1), 2);
        DUE.is("39: spot", x.as(2, 1), 0);
        DUE.is("39: other spot", x.as(3, 0), Due.MISSING);
        int[] head = {1, 4, 0, 6, 0, 0};
        for (int what = 0; what < 6; what++) {
            DUE.is("39: keeper " + what, x.of(0, what), head[what]);
        }
        DUE.is("39: child", x.ofChild(0, 0) * 100 + x.ofChild(0, 1) * 10 + x.ofChild(0, 2) + x.ofChild(0, 3), 350);
        DUE.is("39: the tape isn't undone", x.count(5), 3);
        DUE.is("39: nor is a sheet", x.judge(0), 0);
        x.keeper(3, 1);
        DUE.is("39: a new keeper is as at first", x.of(1, 2), 0);
        x.child(1, 1);
        DUE.is("39: a new child is as at first", x.ofChild(1, 2), 0);
    }

    private static void count() {
        FogSchool x = Due.inFog(2);
        x.keeper(0, 0);
        x.keeper(2, 0);
        x.child(0, 3);
        x.hold(4, 1);
        x.seed(-5);
        x.feed(0, 4);
        x.go(1);
        int[] want = {1, 2, 1, 1, 2 + 5, 4, -5, 1};
        for (int what = 0; what < 8; what++) {
            DUE.is("41: what " + what, x.count(what), want[what]);
        }
        DUE.is("41: what 8", x.count(8), Due.BEYOND);
        DUE.is("41: what -1", x.count(-1), Due.BEYOND);
    }

    private static void status() {
        FogSchool x = new FogSchool();
        x.listed(6);
        x.feed(0, 5);
        for (int i = 0; i < 30; i++) {
            x.feed(0, 4);
        }
        x.feed(0, 1);
        x.keeper(0, 0);
        x.hold(0, 0);
        x.as(0, 1);
        x.undo();
        x.load(0);
        x.sheet(0, 8, -1);
        x.text();
        x.seed(-1000003);
        x.seed(0);
        int[] want = {2, 1, 1, 1, 0, 1, 1};
        for (int which = 0; which < 7; which++) {
            DUE.is("42: which " + which, x.status(which), want[which]);
        }
        DUE.is("42: all", x.status(-1), 7);
        DUE.is("42: which 7", x.status(7), Due.BEYOND);
        DUE.is("42: counted from then on", x.status(0), 3);
        DUE.is("42: which -2", x.status(-2), Due.BEYOND);
        DUE.is("42: all, with these", x.status(-1), 9);
        x.image();
        x.listed(-1);
        x.undo();
        DUE.is("42: undo takes none back", x.status(0), 5);
    }
}
