/** Promises 25 to 30: autumns by draws, and texts. */
public final class AutumnTest {
    private static final Due DUE = new Due("AutumnTest");

    public static void main(String[] args) {
        autumn();
        odds();
        seed();
        feedAndWipe();
        textsThatHold();
        textsWithFaults();
        textsThatAreFull();
        DUE.end();
    }

    private static void autumn() {
        FogSchool x = new FogSchool();
        DUE.is("25: 0 times", x.autumn(0), Due.BEYOND);
        DUE.is("25: 21 times", x.autumn(21), Due.BEYOND);
        DUE.is("25: -1 times", x.autumn(-1), Due.BEYOND);
        DUE.is("25: nothing drawn", x.count(6), 1);
        x.keeper(4, 0);
        x.child(15, 0);
        // z: 1, 1103527590, 2524885223; the draws are 4310654 and 9862832.
        DUE.is("25: once", x.autumn(1), 1);
        DUE.is("25: z", x.count(6), (int) 2524885223L);
        DUE.is("25: fog of the day", x.listed(0), 4);
        DUE.is("25: behind 15 comes 0", x.ofChild(0, 0), 0);
        DUE.is("25: day", x.now(0), 1);
        FogSchool y = new FogSchool();
        for (int c = 0; c < 6; c++) {
            y.child(c, 0);
        }
        int z = 1;
        int[] cells = {0, 1, 2, 3, 4, 5};
        int[] fogs = new int[6];
        for (int day = 0; day < 20; day++) {
            z = z * 1103515245 + 12345;
            fogs[day % 6] = (z >>> 8) % 10;
            z = z * 1103515245 + 12345;
            int who = (z >>> 8) % 8;
            if (who < 6) {
                cells[who] = (cells[who] + 1) % 16;
            }
        }
        DUE.is("25: 20 times", y.autumn(20), 0);
        for (int i = 0; i < 6; i++) {
            DUE.is("25: list", y.listed(i), fogs[i]);
            DUE.is("25: cell", y.ofChild(i, 0), cells[i]);
        }
        DUE.is("25: z behind 40 draws", y.count(6), z);
    }

    private static void odds() {
        FogSchool x = new FogSchool();
        DUE.is("26: nobody", x.odds(0, 0, 1, 0), Due.BEYOND);
        x.keeper(0, 0);
        x.keeper(4, 15);
        x.child(4, 0);
        DUE.is("26: no keeper", x.odds(0, 2, 1, 0), Due.BEYOND);
        DUE.is("26: no child", x.odds(1, 0, 1, 0), Due.BEYOND);
        DUE.is("26: 5 of 10", x.odds(0, 0, 1, 0), 1);
        DUE.is("26: 5 of 10, below", x.odds(0, 0, 1, 1), 2);
        DUE.is("26: 17 of them, below", x.odds(0, 0, 17, 1), 1 << 17);
        DUE.is("26: 9 of 10", x.odds(0, 1, 17, 0), 16677181699666569L);
        DUE.is("26: 9 of 10, below", x.odds(0, 1, 17, 1), 100000000000000000L);
        DUE.is("26: no fogs", x.odds(0, 0, 0, 0), 1);
        DUE.is("26: no fogs, below", x.odds(0, 0, 0, 1), 1);
        x.teach(0, 0, 7);
        DUE.is("26: never", x.odds(0, 0, 3, 0), 0);
        DUE.is("26: never, below", x.odds(0, 0, 3, 1), 1);
        DUE.is("26: never, no fogs", x.odds(0, 0, 0, 0), 1);
        x.teach(0, 0, 3);
        DUE.is("26: 7 of 10", x.odds(0, 0, 2, 0), 49);
        DUE.is("26: 7 of 10, below", x.odds(0, 0, 2, 1), 100);
        x.change(1, 5, 1);
        DUE.is("26: silent", x.odds(0, 1, 1, 0), 0);
        DUE.is("26: 18 fogs", x.odds(0, 0, 18, 0), Due.BEYOND);
        DUE.is("26: -1 fogs", x.odds(0, 0, -1, 0), Due.BEYOND);
        DUE.is("26: what 2", x.odds(0, 0, 1, 2), Due.BEYOND);
        DUE.is("26: what -1", x.odds(0, 0, 1, -1), Due.BEYOND);
        DUE.is("26: findings counted", x.status(0), 7);
    }

    private static void seed() {
        FogSchool x = new FogSchool();
        DUE.is("27: first", x.seed(-1000001), 1);
        DUE.is("27: what it was", x.seed(Integer.MIN_VALUE), -1000001);
        DUE.is("27: lowest", x.seed(0), Integer.MIN_VALUE);
        DUE.is("27: no finding", x.status(-1), 0);
        x.autumn(1);
        DUE.is("27: drawn from there", x.count(6), 12345 * 1103515245 + 12345);
    }

    private static void feedAndWipe() {
        FogSchool x = new FogSchool();
        DUE.is("28: n 0", x.feed(0, 0), Due.BEYOND);
        DUE.is("28: n 5", x.feed(0, 5), Due.BEYOND);
        DUE.is("28: n -1", x.feed(0, -1), Due.BEYOND);
        DUE.is("28: the lowest, the highest of these first", x.feed(0x7a68756d, 3), 3);
        DUE.is("28: it is hum", x.text(), 1);
        DUE.is("28: hum", x.of(0, 0), 4);
        for (int i = 1; i <= 29; i++) {
            DUE.is("28: four more", x.feed(0x20202020, 4), 4 * i);
        }
        DUE.is("28: 118", x.feed(0, 2), 118);
        DUE.is("28: three don't go", x.feed(0, 3), Due.FULL);
        DUE.is("28: beyond ahead of full", x.feed(0, 5), Due.BEYOND);
        DUE.is("28: none of them came", x.count(5), 118);
        DUE.is("28: 120", x.feed(0, 2), 120);
        DUE.is("28: full", x.feed(0, 1), Due.FULL);
        DUE.is("29: wiped", x.wipe(), 120);
        DUE.is("29: empty", x.wipe(), 0);
        DUE.is("29: empty count", x.count(5), 0);
        DUE.is("29: from the begin on again", x.feed(0x666f67, 3), 3);
        DUE.is("29: fog, then nothing", x.text(), -4);
    }

    private static void textsThatHold() {
        FogSchool x = new FogSchool();
        DUE.is("30: all told", Due.read(x, "echo at 12 note 11 loud 15 silent;child at 15 quick 9 knows 4095 ; fog 5 9"), 3);
        int[] echo = {5, 12, 11, 15, 0, 1};
        for (int what = 0; what < 6; what++) {
            DUE.is("30: echo " + what, x.of(0, what), echo[what]);
        }
        int[] child = {15, 9, 4095, 0};
        for (int what = 0; what < 4; what++) {
            DUE.is("30: child " + what, x.ofChild(0, what), child[what]);
        }
        DUE.is("30: fog", x.listed(5), 9);
        DUE.is("30: the tape is empty", x.count(5), 0);
        DUE.is("30: nothing told", Due.read(x, "  elder;child;drunk loud0;poet silent;head note 07;keeper at00015loud 0003 "), 6);
        int[] elder = {6, 0, 0, 6, 0, 0};
        for (int what = 0; what < 6; what++) {
            DUE.is("30: elder " + what, x.of(1, what), elder[what]);
        }
        DUE.is("30: child at 0", x.ofChild(1, 0), 0);
        DUE.is("30: quick 3", x.ofChild(1, 1), 3);
        DUE.is("30: loud 0", x.of(2, 3), 0);
        DUE.is("30: silent poet", x.of(3, 5) * 10 + x.of(3, 0), 13);
        DUE.is("30: head's note", x.of(4, 2), 7);
        DUE.is("30: keeper's cell", x.of(5, 1), 15);
        DUE.is("30: keeper's loudness", x.of(5, 3), 3);
        DUE.is("30: the later one holds", Due.read(x, "fog 0 1;fog 0 2;fog1 3"), 3);
        DUE.is("30: fog 0", x.listed(0), 2);
        DUE.is("30: no blanks", x.listed(1), 3);
        DUE.is("30: keepers", x.count(1), 6);
    }

    private static void textsWithFaults() {
        String[] texts = {"", "   ", "foghorn", "Hum", "hum;", "hum; ", "hum ,hum", "hum hum", "hum at", "hum at at", "hum at 16",
            "hum at 15 at 1", "hum note 12", "hum note 1 at 1", "hum loud 16", "hum silent silent", "hum silent at 1",
            "child silent", "child quick 10", "child knows 4096", "child knows 40950", "child knows 9999", "child knows 10000",
            "child knows 1 quick 1", "fog", "fog 6 1", "fog 5", "fog 5 10", "fog 5 9 1", "fog at 1", ";", ";hum", "hum;;hum",
            "12", "hum at -1", "hum\t", "\u00ff", "hum\u00e1", "hum at 99999999999999999999", "humat 1", "hum at1x", "fog 51",
            "hum;fog 0 4;child at 16", "at 1", "humz", "hum zat 1", "xum", "hun", "hu", "hums", "hum xt 1", "`hum", "{hum",
            "hum at 1/", "hum at 1:"};
        int[] faults = {0, 3, 0, 0, 4, 5, 4, 4, 6, 7, 7, 10, 9, 11, 9, 11, 11, 6, 12, 12, 12, 12, 12, 14, 3, 4, 5, 6, 8, 4, 0, 0,
            4, 0, 7, 3, 0, 3, 7, 0, 7, 4, 21, 0, 0, 4, 0, 0, 0, 0, 4, 0, 0, 8, 8};
        DUE.is("30: as many faults as texts", faults.length, texts.length);
        FogSchool x = new FogSchool();
        for (int i = 0; i < texts.length; i++) {
            DUE.is("30: '" + texts[i] + "'", Due.read(x, texts[i]), -1 - faults[i]);
            DUE.is("30: empty tape behind '" + texts[i] + "'", x.count(5), 0);
        }
        DUE.is("30: nothing changed", x.count(1) + x.count(2) + x.listed(0) + x.listed(5), 0);
        DUE.is("30: no finding", x.status(-1), 0);
    }

    private static void textsThatAreFull() {
        FogSchool x = new FogSchool();
        x.keeper(0, 0);
        x.child(0, 0);
        DUE.is("30: the 9th keeper's word", Due.read(x, "hum;hum;hum;hum;hum;hum;hum; hum at 99"), -30);
        DUE.is("30: the 7th child's word", Due.read(x, "child;child;child;child;child;child;x"), -31);
        DUE.is("30: none came", x.count(1) * 10 + x.count(2), 11);
        DUE.is("30: 8 keepers", Due.read(x, "hum;hum;hum;hum;hum;hum;hum"), 7);
        DUE.is("30: 6 children", Due.read(x, "child;child;child;child;child"), 5);
        DUE.is("30: the first is too many", Due.read(x, "echo"), -1);
        DUE.is("30: fogs still go", Due.read(x, "fog 2 2"), 1);
        DUE.is("30: a full tape", Due.read(x, "fog 0 1;fog 0 1;fog 0 1;fog 0 1;fog 0 1;fog 0 1;fog 0 1;fog 0 1;"
            + "fog 0 1;fog 0 1;fog 0 1;fog 0 1;fog 0 1;fog 0 1;fog 0 8 "), 15);
        DUE.is("30: its last", x.listed(0), 8);
    }
}
