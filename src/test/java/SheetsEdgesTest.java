/** Promises 31 to 42 at their boundaries, on both sides of each. */
public final class SheetsEdgesTest {
    private static final Due DUE = new Due("SheetsEdgesTest");

    private static final int MOST = Integer.MAX_VALUE;
    private static final int LEAST = Integer.MIN_VALUE;

    public static void main(String[] args) {
        hold();
        as();
        sheet();
        sheetAnew();
        write();
        lowestBits();
        copyFindings();
        copyRanges();
        copyOverItself();
        load();
        judge();
        image();
        newOnesBehindAnUndo();
        undo();
        tear();
        count();
        status();
        statusOfEachFinding();
        DUE.end();
    }

    private static void hold() {
        DUE.range("31: spot", Due::some, 0, 9, (x, v) -> x.hold(v, 0));
        DUE.range("31: spot for nothing", Due::some, 0, 9, (x, v) -> x.hold(v, -1));
        DUE.range("31: nothing or one of three", Due::some, -1, 2, (x, v) -> x.hold(0, v));
        DUE.range("31: nothing or one of eight", Due::most, -1, 7, (x, v) -> x.hold(0, v));
        DUE.range("31: nothing or none", FogSchool::new, -1, -1, (x, v) -> x.hold(0, v));
        FogSchool x = Due.most();
        for (int spot = 0; spot <= 9; spot++) {
            DUE.is("31: held in " + spot, x.hold(spot, Math.min(spot, 7)), 1);
            DUE.is("31: so many hold", x.count(7), spot + 1);
        }
        for (int spot = 0; spot <= 9; spot++) {
            DUE.is("31: it is held in " + spot, x.as(spot, 0), Math.min(spot, 7));
        }
        for (int spot = 0; spot <= 9; spot++) {
            DUE.is("31: nothing in " + spot, x.hold(spot, -1), 1);
            DUE.is("31: so many hold still", x.count(7), 9 - spot);
            DUE.is("31: nothing is there", x.as(spot, 0), Due.MISSING);
        }
    }

    private static void as() {
        DUE.range("32: spot", SheetsEdgesTest::heldHums, 0, 9, (x, v) -> x.as(v, 0));
        DUE.range("32: kind", SheetsEdgesTest::heldHums, 0, 6, (x, v) -> x.as(0, v));
        FogSchool x = heldHums();
        // Of which kinds each kind is, as sets: it and those that it is under.
        int[] kinds = {1, 1 + 2, 1 + 4, 1 + 4 + 8, 1 + 4 + 8 + 16, 1 + 32, 1 + 2 + 64};
        for (int own = 0; own <= 6; own++) {
            x.change(0, 0, own);
            for (int kind = 0; kind <= 6; kind++) {
                DUE.is("32: kind " + own + " as " + kind, x.as(0, kind), (kinds[own] >> kind) % 2 == 1 ? 0 : Due.KIND);
            }
        }
        x.hold(0, -1);
        DUE.is("32: nothing is of no kind", x.as(0, 2), Due.MISSING);
        DUE.is("32: nothing, and no such kind", x.as(0, 7), Due.BEYOND);
        DUE.is("32: a keeper, and no such kind", x.as(1, -1), Due.BEYOND);
        DUE.is("32: no such spot, ahead of all", x.as(10, 7), Due.BEYOND);
    }

    private static FogSchool heldHums() {
        FogSchool x = Due.told("hum");
        for (int spot = 0; spot <= 9; spot++) {
            x.hold(spot, 0);
        }
        return x;
    }

    private static void sheet() {
        int[] widths = {8, 16, 32, 0};
        for (int bits : widths) {
            DUE.range("33: sheet, bits " + bits, FogSchool::new, 0, 3, (x, v) -> x.sheet(v, bits, 1));
            for (int n : new int[] {0, 1, 39, 40}) {
                DUE.is("33: bits " + bits + " n " + n, new FogSchool().sheet(0, bits, n), bits == 0 ? 0 : n);
            }
            DUE.is("33: bits " + bits + " n 41", new FogSchool().sheet(0, bits, 41), Due.BEYOND);
            DUE.is("33: bits " + bits + " n most", new FogSchool().sheet(0, bits, MOST), Due.BEYOND);
            DUE.is("33: bits " + bits + " n -1", new FogSchool().sheet(0, bits, -1), Due.SIZE);
            DUE.is("33: bits " + bits + " n least", new FogSchool().sheet(0, bits, LEAST), Due.SIZE);
            DUE.is("33: no such sheet ahead of the size, bits " + bits, new FogSchool().sheet(4, bits, -1), Due.BEYOND);
        }
        for (int bits = -40; bits <= 70; bits++) {
            boolean isWidth = bits == 0 || bits == 8 || bits == 16 || bits == 32;
            DUE.is("33: bits " + bits, new FogSchool().sheet(0, bits, 1), !isWidth ? Due.BEYOND : bits == 0 ? 0 : 1);
            DUE.is("33: bits " + bits + ", n -1", new FogSchool().sheet(0, bits, -1), isWidth ? Due.SIZE : Due.BEYOND);
        }
        DUE.is("33: bits most", new FogSchool().sheet(0, MOST, 1), Due.BEYOND);
        DUE.is("33: bits least", new FogSchool().sheet(0, LEAST, 1), Due.BEYOND);
    }

    private static void sheetAnew() {
        FogSchool x = new FogSchool();
        for (int s = 0; s <= 3; s++) {
            Due.sheetOf(x, s, 8, 5, 5, 5);
        }
        x.sheet(1, 8, 40);
        for (int i = 0; i < 6; i++) {
            x.fog(i, 9);
        }
        DUE.is("33: all 0, also where there were others", x.load(1), 6);
        DUE.is("33: place 0", x.listed(0), 0);
        DUE.is("33: place 2", x.listed(2), 0);
        DUE.is("33: another sheet stays", x.load(0), 3);
        DUE.is("33: with its numbers", x.listed(2), 5);
        DUE.is("33: refused", x.sheet(0, 16, 41) + x.sheet(0, 16, -1) + x.sheet(0, 9, 1), Due.BEYOND + Due.SIZE + Due.BEYOND);
        x.fog(0, 1);
        DUE.is("33: it stays then", x.load(0), 3);
        DUE.is("33: so do its numbers", x.listed(0), 5);
        DUE.is("33: so do its bits", x.copy(0, 0, 2, 0, 3), 3);
        DUE.is("33: refused to go missing", x.sheet(0, 0, -1), Due.SIZE);
        DUE.is("33: it isn't missing then", x.load(0), 3);
        DUE.is("33: missing", x.sheet(0, 0, 0), 0);
        DUE.is("33: it is missing", x.load(0), Due.MISSING);
        DUE.is("33: missing once more", x.sheet(0, 0, 40), 0);
        DUE.is("33: without numbers", x.sheet(0, 8, 0), 0);
        DUE.is("33: that isn't missing", x.load(0), 0);
    }

    private static void write() {
        DUE.range("34: sheet", SheetsEdgesTest::withSheets, 0, 3, (x, v) -> x.write(v, 0, 1));
        DUE.range("34: number of 40", SheetsEdgesTest::withSheets, 0, 39, (x, v) -> x.write(0, v, 1));
        DUE.range("34: number of 1", SheetsEdgesTest::withSheets, 0, 0, (x, v) -> x.write(1, v, 1));
        FogSchool x = new FogSchool();
        DUE.is("34: no such sheet", x.write(4, -1, 0), Due.BEYOND);
        DUE.is("34: missing ahead of no such number", x.write(0, -1, 0), Due.MISSING);
        x.sheet(0, 32, 0);
        DUE.is("34: no numbers", x.write(0, 0, 0), Due.BEYOND);
        x.sheet(0, 32, 2);
        DUE.is("34: the last", x.write(0, 1, LEAST), 1);
        DUE.is("34: one behind it", x.write(0, 2, 0), Due.BEYOND);
    }

    private static FogSchool withSheets() {
        FogSchool x = new FogSchool();
        x.sheet(0, 8, 40);
        x.sheet(1, 16, 1);
        x.sheet(2, 32, 2);
        x.sheet(3, 8, 40);
        return x;
    }

    /** Read back by a child that has LEARNT just that: judge() answers 0 then, else 1. */
    private static void lowestBits() {
        int[][] rows = {
            // bits, v, what it is then as LEARNT, or -1 if no set is so
            {8, 127, 127}, {8, 128, -1}, {8, 255, -1}, {8, 256, 0}, {8, 257, 1}, {8, 383, 127}, {8, -1, -1}, {8, -129, 127}, {8, -256, 0},
            {8, LEAST, 0}, {8, MOST, -1}, {8, 4095, -1}, {8, 65536, 0},
            {16, 128, 128}, {16, 255, 255}, {16, 256, 256}, {16, 4095, 4095}, {16, 4096, -1}, {16, 32767, -1}, {16, 32768, -1},
            {16, 65535, -1}, {16, 65536, 0}, {16, 65537, 1}, {16, -65536 + 4095, 4095}, {16, LEAST, 0}, {16, MOST, -1},
            {32, 255, 255}, {32, 4095, 4095}, {32, 4096, -1}, {32, 65536, -1}, {32, 65536 + 1, -1}, {32, LEAST, -1}, {32, -1, -1}};
        for (int[] row : rows) {
            FogSchool x = Due.told("child");
            Due.sheetOf(x, 0, row[0], row[1]);
            for (int learnt : new int[] {0, 1, 127, 128, 255, 256, 4095}) {
                x.teach(0, 2, learnt);
                DUE.is("34: " + row[1] + " in " + row[0] + " bits as " + learnt, x.judge(0), learnt == row[2] ? 0 : 1);
            }
        }
        int[][] any = {{8, -1, 10}, {8, 255, 10}, {8, 65535, 10}, {8, 127, 0}, {16, -1, 10}, {16, 65535, 10}, {16, 255, 0}, {32, -1, 10},
            {32, 65535, 0}, {32, 255, 0}};
        for (int[] row : any) {
            FogSchool x = Due.told("child");
            Due.sheetOf(x, 0, row[0], row[1]);
            DUE.is("23: " + row[1] + " in " + row[0] + " bits, any or not", x.fits(0, 0), row[2]);
        }
    }

    private static void copyFindings() {
        FogSchool x = new FogSchool();
        for (int wrong : new int[] {-1, 4, LEAST, MOST}) {
            DUE.is("35: from sheet " + wrong, x.copy(wrong, 0, 0, 0, 0), Due.BEYOND);
            DUE.is("35: to sheet " + wrong, x.copy(0, 0, wrong, 0, 0), Due.BEYOND);
        }
        DUE.is("35: both are missing", x.copy(0, -1, 3, -1, -1), Due.MISSING);
        x.sheet(0, 8, 3);
        DUE.is("35: the second is missing", x.copy(0, -1, 3, 0, 0), Due.MISSING);
        DUE.is("35: the first is missing", x.copy(3, -1, 0, 0, 0), Due.MISSING);
        DUE.is("35: one is missing, the other isn't there", x.copy(3, 0, 4, 0, 0), Due.BEYOND);
        int[] widths = {8, 16, 32};
        for (int ofFirst : widths) {
            for (int ofSecond : widths) {
                x.sheet(0, ofFirst, 3);
                x.sheet(3, ofSecond, 3);
                boolean isSame = ofFirst == ofSecond;
                DUE.is("35: " + ofFirst + " to " + ofSecond, x.copy(0, 0, 3, 0, 3), isSame ? 3 : Due.KIND);
                DUE.is("35: " + ofFirst + " to " + ofSecond + ", too many", x.copy(0, 0, 3, 0, 4), isSame ? Due.BEYOND : Due.KIND);
                DUE.is("35: " + ofFirst + " to " + ofSecond + ", none", x.copy(0, 0, 3, 0, 0), isSame ? 0 : Due.KIND);
            }
        }
    }

    /** Sheet 0 has six numbers, sheet 1 has four. */
    private static void copyRanges() {
        int[][] rows = {
            // from, to, n, the answer
            {0, 0, 4, 4}, {0, 0, 5, Due.BEYOND}, {2, 0, 4, 4}, {3, 0, 4, Due.BEYOND}, {3, 0, 3, 3}, {0, 1, 3, 3}, {0, 1, 4, Due.BEYOND},
            {5, 3, 1, 1}, {5, 3, 2, Due.BEYOND}, {5, 4, 1, Due.BEYOND}, {6, 3, 1, Due.BEYOND}, {6, 4, 0, 0}, {7, 4, 0, Due.BEYOND},
            {6, 5, 0, Due.BEYOND}, {0, 0, 0, 0}, {-1, 0, 1, Due.BEYOND}, {-1, 0, 0, Due.BEYOND}, {0, -1, 1, Due.BEYOND}, {0, -1, 0, Due.BEYOND},
            {0, 0, -1, Due.BEYOND}, {1, 1, -1, Due.BEYOND}, {MOST, 0, 1, Due.BEYOND}, {0, MOST, 1, Due.BEYOND}, {0, 0, MOST, Due.BEYOND},
            {1, 1, MOST, Due.BEYOND}, {MOST, MOST, MOST, Due.BEYOND}, {LEAST, 0, 1, Due.BEYOND}, {0, LEAST, 1, Due.BEYOND},
            {0, 0, LEAST, Due.BEYOND}, {MOST, 0, LEAST, Due.BEYOND}, {LEAST, LEAST, LEAST, Due.BEYOND}};
        for (int[] row : rows) {
            FogSchool x = new FogSchool();
            Due.sheetOf(x, 0, 8, 1, 2, 3, 4, 5, 6);
            Due.sheetOf(x, 1, 8, 9, 9, 9, 9);
            String what = "35: " + row[2] + " from " + row[0] + " to " + row[1];
            DUE.is(what, x.copy(0, row[0], 1, row[1], row[2]), row[3]);
            DUE.is(what + ", all four are there", x.load(1), 4);
            for (int i = 0; i < 4; i++) {
                boolean isCopied = row[3] > 0 && i >= row[1] && i < row[1] + row[2];
                DUE.is(what + ", number " + i, x.listed(i), isCopied ? 1 + row[0] + i - row[1] : 9);
            }
            DUE.is(what + ", the first sheet stays", x.load(0), 6);
            for (int i = 0; i < 6; i++) {
                DUE.is(what + ", the first sheet's number " + i, x.listed(i), i + 1);
            }
        }
        FogSchool most = new FogSchool();
        most.sheet(0, 32, 40);
        most.sheet(1, 32, 40);
        DUE.is("35: 40 of 40", most.copy(0, 0, 1, 0, 40), 40);
        DUE.is("35: 41 of 40", most.copy(0, 0, 1, 0, 41), Due.BEYOND);
        DUE.is("35: the 40th", most.copy(0, 39, 1, 39, 1), 1);
    }

    private static void copyOverItself() {
        int[][] rows = {
            // from, to, n, and the six numbers then
            {0, 1, 5, 1, 1, 2, 3, 4, 5}, {1, 0, 5, 2, 3, 4, 5, 6, 6}, {0, 2, 4, 1, 2, 1, 2, 3, 4}, {2, 0, 4, 3, 4, 5, 6, 5, 6},
            {0, 0, 6, 1, 2, 3, 4, 5, 6}, {0, 3, 3, 1, 2, 3, 1, 2, 3}, {5, 0, 1, 6, 2, 3, 4, 5, 6}, {6, 6, 0, 1, 2, 3, 4, 5, 6}};
        for (int[] row : rows) {
            FogSchool x = new FogSchool();
            Due.sheetOf(x, 2, 16, 1, 2, 3, 4, 5, 6);
            DUE.is("35: over itself", x.copy(2, row[0], 2, row[1], row[2]), row[2]);
            x.load(2);
            for (int i = 0; i < 6; i++) {
                DUE.is("35: from " + row[0] + " to " + row[1] + ", number " + i, x.listed(i), row[3 + i]);
            }
        }
    }

    private static void load() {
        DUE.range("36: sheet", SheetsEdgesTest::withSheets, 0, 3, FogSchool::load);
        DUE.is("36: missing", new FogSchool().load(0), Due.MISSING);
        int[][] sheets = {{}, {9}, {10}, {-1}, {1, 2, 3, 4, 5}, {1, 2, 3, 4, 5, 6}, {1, 2, 3, 4, 5, 6, 8}, {1, 2, 3, 4, 5, 6, 10}, {1, 10, 3},
            {0, -1, 3}, {1, 2, 3, 4, 5, 10}, {0, 9, 0, 9, 0, 9}, {LEAST}, {MOST}};
        int[] came = {0, 1, 0, 0, 5, 6, 6, 6, 1, 1, 5, 6, 0, 0};
        for (int i = 0; i < sheets.length; i++) {
            FogSchool x = Due.inFog(7);
            Due.sheetOf(x, 0, 32, sheets[i]);
            DUE.is("36: of sheet " + i, x.load(0), came[i]);
            for (int place = 0; place <= 5; place++) {
                DUE.is("36: of sheet " + i + ", place " + place, x.listed(place), place < came[i] ? sheets[i][place] : 7);
            }
        }
    }

    private static void judge() {
        DUE.range("37: sheet", SheetsEdgesTest::withSheets, 0, 3, FogSchool::judge);
        DUE.is("37: missing", new FogSchool().judge(0), Due.MISSING);
        FogSchool x = Due.told("child knows 1;child knows 2;child knows 4;child knows 8;child knows 16;child knows 4095");
        int[][] sheets = {{}, {1}, {0}, {1, 2, 4, 8, 16, 4095}, {1, 2, 4, 8, 16, 4094}, {1, 2, 4, 8, 16, 4095, 0}, {1, 2, 0, 0}, {2, 2, 4},
            {1, 2, 4, 8, 0, 4094}, {1, 2, 4, 8, 16}, {-1}, {1, -1}};
        int[] want = {0, 0, 1, 0, 6, 7, 3, 1, 5, 0, 1, 2};
        for (int i = 0; i < sheets.length; i++) {
            Due.sheetOf(x, 0, 16, sheets[i]);
            DUE.is("37: of sheet " + i, x.judge(0), want[i]);
        }
        x.sheet(0, 32, 40);
        for (int c = 0; c < 6; c++) {
            x.teach(c, 2, 0);
        }
        DUE.is("37: 40 numbers, six children", x.judge(0), 7);
        FogSchool nobody = new FogSchool();
        nobody.sheet(0, 32, 1);
        DUE.is("37: a number, nobody", nobody.judge(0), 1);
        nobody.sheet(0, 32, 0);
        DUE.is("37: no number, nobody", nobody.judge(0), 0);
    }

    private static void image() {
        FogSchool x = new FogSchool();
        DUE.is("38: of an empty coast", x.image(), 1);
        x.keeper(0, 0);
        x.child(0, 0);
        x.hold(0, 0);
        DUE.is("39: empty again", x.undo(), 0);
        DUE.is("39: no keepers", x.count(1), 0);
        DUE.is("39: no children", x.count(2), 0);
        DUE.is("39: no spot", x.count(7), 0);
        FogSchool most = Due.most();
        most.hold(9, 7);
        DUE.is("38: of a full coast", most.image(), 1);
        most.change(7, 5, 1);
        most.teach(5, 2, 4095);
        most.hold(9, -1);
        most.undo();
        DUE.is("39: the last keeper", most.of(7, 5), 0);
        DUE.is("39: the last child", most.ofChild(5, 2), 0);
        DUE.is("39: the last spot", most.as(9, 0), 7);
        most.seed(9);
        most.fog(5, 9);
        most.undo();
        DUE.is("39: z", most.count(6), 1);
        DUE.is("39: the last place of the list", most.listed(5), 3);
        DUE.is("39: no room for a keeper", most.keeper(0, 0), Due.FULL);
        DUE.is("39: no room for a child", most.child(0, 0), Due.FULL);
    }

    /** Where an undo took a keeper and a child away, new ones are as at first, whether called or read. */
    private static void newOnesBehindAnUndo() {
        int[] keeper = {6, 15, 11, 15, 99, 1};
        int[] child = {15, 9, 4095, 4095};
        int[] newKeeper = {0, 0, 0, 6, 0, 0};
        int[] newChild = {0, 3, 0, 0};
        for (int way = 0; way <= 1; way++) {
            FogSchool x = new FogSchool();
            x.image();
            x.keeper(6, 15);
            x.child(15, 9);
            for (int what = 0; what <= 5; what++) {
                x.change(0, what, keeper[what]);
            }
            for (int what = 0; what <= 3; what++) {
                x.teach(0, what, child[what]);
            }
            x.undo();
            if (way == 0) {
                x.keeper(0, 0);
                x.child(0, 3);
            } else {
                Due.read(x, "keeper;child");
            }
            for (int what = 0; what <= 5; what++) {
                DUE.is("39: a new keeper, what " + what, x.of(0, what), newKeeper[what]);
            }
            for (int what = 0; what <= 3; what++) {
                DUE.is("39: a new child, what " + what, x.ofChild(0, what), newChild[what]);
            }
        }
    }

    private static void undo() {
        FogSchool x = new FogSchool();
        DUE.is("39: nothing is kept", x.undo(), Due.NONE);
        x.go(7);
        x.image();
        DUE.is("39: at once", x.undo(), 7);
        x.go(1);
        x.image();
        x.go(1);
        DUE.is("39: the latest of two", x.undo(), 8);
        x.go(5);
        DUE.is("39: which stays", x.undo(), 8);
        Due.feedAll(x, "hum");
        x.sheet(0, 8, 2);
        DUE.is("39: once more", x.undo(), 8);
        DUE.is("39: the tape isn't kept", x.count(5), 3);
        DUE.is("39: nor are sheets", x.load(0), 2);
        DUE.is("39: findings are told still", x.status(3), 1);
        x.wipe();
        x.sheet(0, 0, 0);
        DUE.is("39: and once more", x.undo(), 8);
        DUE.is("39: the tape stays empty", x.count(5), 0);
        DUE.is("39: the sheet stays missing", x.load(0), Due.MISSING);
    }

    private static void tear() {
        FogSchool x = new FogSchool();
        DUE.is("40: nothing was kept", x.tear(), 0);
        x.image();
        x.image();
        DUE.is("40: something was", x.tear(), 1);
        DUE.is("40: not two of them", x.tear(), 0);
        DUE.is("40: nothing is kept then", x.undo(), Due.NONE);
        x.image();
        DUE.is("40: kept again", x.undo(), 0);
        DUE.is("40: undone, it is kept still", x.tear(), 1);
    }

    private static void count() {
        DUE.range("41: what", Due::some, 0, 7, FogSchool::count);
        FogSchool x = new FogSchool();
        int[] first = {0, 0, 0, 0, 0, 0, 1, 0};
        for (int what = 0; what <= 7; what++) {
            DUE.is("41: at first, what " + what, x.count(what), first[what]);
        }
        FogSchool most = Due.most();
        for (int k = 0; k < 8; k++) {
            most.change(k, 4, 99);
            most.change(k, 5, k % 2);
        }
        for (int c = 0; c < 6; c++) {
            most.teach(c, 2, 4095);
        }
        for (int spot = 0; spot <= 9; spot++) {
            most.hold(spot, 0);
        }
        for (int i = 0; i < 30; i++) {
            most.feed(0, 4);
        }
        most.seed(LEAST);
        int[] greatest = {0, 8, 6, 72, 792, 120, LEAST, 10};
        for (int what = 0; what <= 7; what++) {
            DUE.is("41: at most, what " + what, most.count(what), greatest[what]);
        }
    }

    private static void status() {
        DUE.range("42: which", Due::some, -1, 6, FogSchool::status);
        FogSchool x = new FogSchool();
        DUE.is("42: none at first", x.status(-1), 0);
        DUE.is("42: -2", x.status(-2), Due.BEYOND);
        DUE.is("42: that is one", x.status(0), 1);
        DUE.is("42: of all", x.status(-1), 1);
        DUE.is("42: 7", x.status(7), Due.BEYOND);
        DUE.is("42: that is another one", x.status(0), 2);
        DUE.is("42: looking counts for nothing", x.status(0), 2);
        x.image();
        x.listed(-1);
        x.undo();
        DUE.is("42: undo takes none back", x.status(0), 3);
        Due.read(x, "fog 6 6");
        x.wipe();
        x.tear();
        DUE.is("42: a fault is no finding", x.status(-1), 3);
    }

    private static void statusOfEachFinding() {
        for (int which = 0; which <= 6; which++) {
            FogSchool x = Due.most();
            x.hold(0, 0);
            long[] answers = {x.status(-1), 0};
            switch (which) {
                case 0: answers[1] = x.odds(6, 0, 0, 0); break;
                case 1: answers[1] = x.child(0, 0); break;
                case 2: answers[1] = x.as(0, 1); break;
                case 3: answers[1] = x.undo(); break;
                case 4: answers[1] = stateOf(x); break;
                case 5: answers[1] = x.judge(0); break;
                default: answers[1] = x.sheet(0, 8, -1);
            }
            DUE.is("42: none yet", answers[0], 0);
            DUE.is("42: the finding " + which, answers[1], Due.BEYOND - which);
            for (int other = 0; other <= 6; other++) {
                DUE.is("42: behind " + which + ", of " + other, x.status(other), other == which ? 1 : 0);
            }
            DUE.is("42: behind " + which + ", of all", x.status(-1), 1);
        }
    }

    /** Beyond 512 calls, where answers are free; but the class keeps to the document there, too. */
    private static long stateOf(FogSchool x) {
        for (int i = 0; i < 1666; i++) {
            x.go(60);
        }
        return x.go(40);
    }
}
