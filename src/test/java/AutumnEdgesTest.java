/** Promises 25 to 30 at their boundaries, on both sides of each. */
public final class AutumnEdgesTest {
    private static final Due DUE = new Due("AutumnEdgesTest");

    private static final String[] WORDS = {"keeper", "head", "drunk", "poet", "hum", "echo", "elder"};

    public static void main(String[] args) {
        autumn();
        autumnRows();
        autumnDays();
        odds();
        oddsInLowestTerms();
        seed();
        feed();
        wipe();
        textEnds();
        textWords();
        textNumbers();
        textOrder();
        textBytes();
        textBlanks();
        textIsFull();
        textOfTheLongestTape();
        textForgets();
        textChangesNothing();
        DUE.end();
    }

    private static void autumn() {
        DUE.range("25: times", Due::some, 1, 20, FogSchool::autumn);
        FogSchool once = Due.most();
        FogSchool twenty = Due.most();
        int together = 0;
        for (int i = 0; i < 20; i++) {
            together = once.autumn(1);
        }
        DUE.is("25: 20 times are 20 times once", twenty.autumn(20), together);
        DUE.is("25: so is z", twenty.count(6), once.count(6));
        DUE.is("25: so is DAY", twenty.count(0), 20);
        for (int c = 0; c < 6; c++) {
            DUE.is("25: so is the cell of " + c, twenty.ofChild(c, 0), once.ofChild(c, 0));
            DUE.is("25: so is what it learnt, " + c, twenty.ofChild(c, 2), once.ofChild(c, 2));
        }
    }

    /** Seeds from which the first draw's rest by 10 is 0; beside each the second one's rest by 8. */
    private static void autumnRows() {
        int[][] rows = {{14, 0}, {61, 1}, {108, 2}, {198, 3}, {6, 4}, {109, 5}, {10, 6}, {57, 7}};
        for (int[] row : rows) {
            for (int children = 5; children <= 6; children++) {
                FogSchool x = new FogSchool();
                for (int c = 0; c < children; c++) {
                    x.child(15, 0);
                }
                x.seed(row[0]);
                x.autumn(1);
                for (int c = 0; c < children; c++) {
                    DUE.is("25: behind 15 comes 0, " + c + " from " + row[0], x.ofChild(c, 0), c == row[1] ? 0 : 15);
                }
            }
        }
        FogSchool x = Due.told("child at 14");
        x.seed(14);
        x.autumn(1);
        DUE.is("25: behind 14 comes 15", x.ofChild(0, 0), 15);
        DUE.is("25: nobody there", new FogSchool().autumn(20), 0);
    }

    /** The fog is of the day itself, and the child sits on ahead of it; rests 0 and 9 are the least and the thickest. */
    private static void autumnDays() {
        FogSchool clear = Due.told("fog 0 5;keeper;child");
        clear.change(0, 4, 9);
        clear.seed(14);
        DUE.is("25: a rest of 0 is a clear day", clear.autumn(1), 0);
        DUE.is("25: one rests on it", clear.of(0, 4), 6);
        DUE.is("25: it is listed", clear.listed(0), 0);
        FogSchool thick = Due.told("keeper at 3;child;child at 4");
        thick.seed(74);
        DUE.is("25: a rest of 9 leaves a reach of 2, child 0 comes into it", thick.autumn(1), 2);
        DUE.is("25: it sits at 1", thick.ofChild(0, 0), 1);
        FogSchool days = new FogSchool();
        days.go(5);
        days.seed(74);
        days.autumn(1);
        DUE.is("25: DAY 5 is place 5", days.listed(5), 9);
        days.seed(74);
        days.autumn(1);
        DUE.is("25: DAY 6 is place 0", days.listed(0), 9);
        DUE.is("25: not place 1", days.listed(1), 0);
    }

    private static void odds() {
        DUE.range("26: child of two", Due::some, 0, 1, (x, v) -> x.odds(v, 0, 1, 0));
        DUE.range("26: child of six", Due::most, 0, 5, (x, v) -> x.odds(v, 0, 1, 0));
        DUE.range("26: keeper of three", Due::some, 0, 2, (x, v) -> x.odds(0, v, 1, 0));
        DUE.range("26: keeper of eight", Due::most, 0, 7, (x, v) -> x.odds(0, v, 1, 0));
        DUE.range("26: fogs", Due::some, 0, 17, (x, v) -> x.odds(0, 0, v, 0));
        DUE.range("26: what", Due::some, 0, 1, (x, v) -> x.odds(0, 0, 1, v));
        FogSchool x = Due.some();
        DUE.is("26: no keepers", Due.told("child").odds(0, 0, 0, 0), Due.BEYOND);
        DUE.is("26: no children", Due.told("keeper").odds(0, 0, 0, 0), Due.BEYOND);
        int z = x.count(6);
        x.odds(0, 0, 17, 1);
        DUE.is("26: nothing is drawn", x.count(6), z);
    }

    /** LOUD 4 at cell 0: a child one cell further on is out of reach two fogs earlier. */
    private static void oddsInLowestTerms() {
        long[][] rows = {
            // cell, above and below the line for one fog, for 17 of them
            {1, 7, 10, 232630513987207L, 100000000000000000L}, {2, 1, 2, 1, 131072}, {3, 3, 10, 129140163, 100000000000000000L},
            {4, 1, 10, 1, 100000000000000000L}, {5, 0, 1, 0, 1}, {0, 9, 10, 16677181699666569L, 100000000000000000L}};
        for (long[] row : rows) {
            FogSchool x = Due.told("keeper loud 4");
            x.child((int) row[0], 0);
            DUE.is("26: above, cell " + row[0], x.odds(0, 0, 1, 0), row[1]);
            DUE.is("26: below, cell " + row[0], x.odds(0, 0, 1, 1), row[2]);
            DUE.is("26: 17 above, cell " + row[0], x.odds(0, 0, 17, 0), row[3]);
            DUE.is("26: 17 below, cell " + row[0], x.odds(0, 0, 17, 1), row[4]);
            DUE.is("26: none above, cell " + row[0], x.odds(0, 0, 0, 0), 1);
            DUE.is("26: none below, cell " + row[0], x.odds(0, 0, 0, 1), 1);
            DUE.is("26: no finding", x.status(-1), 0);
        }
        DUE.is("26: a hum isn't heard on a clear day", Due.told("hum;child at 15").odds(0, 0, 1, 0), 9);
        FogSchool silent = Due.told("hum silent;child");
        DUE.is("26: a silent one, above", silent.odds(0, 0, 1, 0), 0);
        DUE.is("26: a silent one, below", silent.odds(0, 0, 1, 1), 1);
    }

    private static void seed() {
        FogSchool x = new FogSchool();
        int was = 1;
        for (int v : new int[] {0, -1, Integer.MIN_VALUE, Integer.MAX_VALUE, -1000001, -1000007, 1}) {
            DUE.is("27: what it was", x.seed(v), was);
            DUE.is("27: what it is", x.count(6), v);
            was = v;
        }
        DUE.is("27: none is a finding", x.status(-1), 0);
    }

    private static void feed() {
        DUE.range("28: n", FogSchool::new, 1, 4, (x, v) -> x.feed(0, v));
        for (int n = 1; n <= 4; n++) {
            FogSchool x = filled(120 - n);
            DUE.is("28: " + n + " up to 120", x.feed(0, n), 120);
            DUE.is("28: no more", x.feed(0, 1), Due.FULL);
            FogSchool y = filled(121 - n);
            DUE.is("28: " + n + " up to 121", y.feed(0, n), Due.FULL);
            DUE.is("28: not one of " + n + " came", y.count(5), 121 - n);
            DUE.is("28: n 5 even then", y.feed(0, 5), Due.BEYOND);
            DUE.is("28: n 0 even then", y.feed(0, 0), Due.BEYOND);
        }
        FogSchool bytes = new FogSchool();
        bytes.feed('h', 1);
        bytes.feed(0x7a7a0000 | 'u' << 8 | 'm', 2);
        DUE.is("28: one byte, then the two lowest of four", bytes.text(), 1);
        bytes.feed(0x7a000000 | 'h' << 16 | 'u' << 8 | 'm', 3);
        DUE.is("28: the three lowest of four", bytes.text(), 1);
        bytes.feed('e' << 24 | 'c' << 16 | 'h' << 8 | 'o', 4);
        DUE.is("28: all four", bytes.text(), 1);
        DUE.is("28: the highest of these first", bytes.of(2, 0), 5);
        DUE.is("28: a number below 0", bytes.feed(-1, 4), 4);
        DUE.is("28: its bytes begin no token", bytes.text(), -1);
    }

    private static FogSchool filled(int bytes) {
        FogSchool x = new FogSchool();
        for (int i = 0; i < bytes; i++) {
            x.feed(' ', 1);
        }
        return x;
    }

    private static void wipe() {
        for (int bytes : new int[] {0, 1, 119, 120}) {
            FogSchool x = filled(bytes);
            DUE.is("29: it had " + bytes, x.wipe(), bytes);
            DUE.is("29: it has none behind " + bytes, x.count(5), 0);
            DUE.is("29: one goes again behind " + bytes, x.feed(0, 1), 1);
        }
    }

    private static void fault(String text, int fault) {
        FogSchool x = new FogSchool();
        DUE.is("30: '" + text + "'", Due.read(x, text), -1 - fault);
        DUE.is("30: an empty tape behind '" + text + "'", x.count(5), 0);
        DUE.is("30: no finding behind '" + text + "'", x.status(-1), 0);
        DUE.is("30: nothing told by '" + text + "'", x.count(1) + x.count(2) + x.count(3), 0);
    }

    private static void items(String text, int items) {
        DUE.is("30: '" + text + "'", Due.read(new FogSchool(), text), items);
    }

    /** It may end behind an item alone; where it ends too early, the fault is how many bytes there are. */
    private static void textEnds() {
        String[] whole = {"hum at 1 note 2 loud 3 silent", "child at 1 quick 2 knows 3", "fog 1 2"};
        int[][] ends = {{3, 8, 15, 22, 29}, {5, 10, 18, 26}, {7}};
        int[][] early = {{6, 13, 20}, {8, 16, 24}, {3, 5}};
        for (int i = 0; i < whole.length; i++) {
            for (int end : ends[i]) {
                items(whole[i].substring(0, end), 1);
                fault(whole[i].substring(0, end) + ";", end + 1);
                fault(whole[i].substring(0, end) + " ;  ", end + 4);
                items(whole[i].substring(0, end) + ";hum", 2);
            }
            for (int end : early[i]) {
                fault(whole[i].substring(0, end), end);
                fault(whole[i].substring(0, end) + " ", end + 1);
                fault(whole[i].substring(0, end) + ";", end);
                fault(whole[i].substring(0, end) + " hum", end + 1);
            }
        }
        fault("", 0);
        fault(" ", 1);
        fault(";", 0);
        fault("hum;;", 4);
        fault(" ;hum", 1);
    }

    /** Each word as it is; a letter less, more or another one is another word. */
    private static void textWords() {
        for (int kind = 0; kind <= 6; kind++) {
            FogSchool x = Due.told(WORDS[kind]);
            DUE.is("30: " + WORDS[kind], x.of(0, 0), kind);
            otherWords("", WORDS[kind], "");
        }
        otherWords("", "child", "");
        otherWords("", "fog", " 0 0");
        otherWords("hum ", "at", " 0");
        otherWords("hum ", "note", " 0");
        otherWords("hum ", "loud", " 0");
        otherWords("hum ", "silent", "");
        otherWords("child ", "at", " 0");
        otherWords("child ", "quick", " 0");
        otherWords("child ", "knows", " 0");
        fault("hum quick 1", 4);
        fault("hum knows 1", 4);
        fault("child note 1", 6);
        fault("child loud 1", 6);
        fault("child silent", 6);
        fault("fog at 1", 4);
        fault("fog 0 silent", 6);
        fault("humhum", 0);
    }

    private static void otherWords(String ahead, String word, String behind) {
        int place = ahead.length();
        items(ahead + word + behind, 1);
        fault(ahead + word.substring(0, word.length() - 1) + behind, place);
        fault(ahead + word + "a" + behind, place);
        fault(ahead + word + "z" + behind, place);
        fault(ahead + word.substring(0, word.length() - 1) + "z" + behind, place);
        fault(ahead + "z" + word.substring(1) + behind, place);
        fault(ahead + word.toUpperCase() + behind, place);
    }

    private static void textNumbers() {
        String[] ahead = {"hum at ", "hum note ", "hum loud ", "child at ", "child quick ", "child knows ", "fog ", "fog 0 "};
        String[] behind = {"", "", "", "", "", "", " 0", ""};
        int[] tops = {15, 11, 15, 15, 9, 4095, 5, 9};
        for (int i = 0; i < ahead.length; i++) {
            for (String number : new String[] {"0", "00", String.valueOf(tops[i]), "0000000000" + tops[i]}) {
                items(ahead[i] + number + behind[i], 1);
            }
            String[] others = {String.valueOf(tops[i] + 1), "0" + (tops[i] + 1), "9999", "10000", tops[i] + "0000", "2147483648",
                "4294967296", "4294967297", "18446744073709551616", "340282366920938463463374607431768211456"};
            for (String number : others) {
                fault(ahead[i] + number + behind[i], ahead[i].length());
            }
            fault(ahead[i] + "-1" + behind[i], ahead[i].length());
            fault(ahead[i] + "+1" + behind[i], ahead[i].length());
            fault(ahead[i] + "x" + behind[i], ahead[i].length());
        }
        FogSchool x = Due.told("hum at 15 note 11 loud 15;hum at 0 note 0 loud 0;child at 15 quick 9 knows 4095",
            "child at 0 quick 0 knows 0;fog 5 9;fog 0 0");
        int[][] keepers = {{4, 15, 11, 15, 0, 0}, {4, 0, 0, 0, 0, 0}};
        int[][] children = {{15, 9, 4095, 0}, {0, 0, 0, 0}};
        for (int one = 0; one <= 1; one++) {
            for (int what = 0; what <= 5; what++) {
                DUE.is("30: told of keeper " + one + ", what " + what, x.of(one, what), keepers[one][what]);
            }
            for (int what = 0; what <= 3; what++) {
                DUE.is("30: told of child " + one + ", what " + what, x.ofChild(one, what), children[one][what]);
            }
        }
        DUE.is("30: fog of place 5", x.listed(5), 9);
        DUE.is("30: fog of place 0", x.listed(0), 0);
    }

    /** What may stand there stands in one order, and once. */
    private static void textOrder() {
        items("hum at 1 loud 2", 1);
        items("hum note 1 silent", 1);
        items("child at 1 knows 2", 1);
        fault("hum at 1 at 1", 9);
        fault("hum note 1 note 1", 11);
        fault("hum loud 1 loud 1", 11);
        fault("hum silent silent", 11);
        fault("hum note 1 at 1", 11);
        fault("hum loud 1 note 1", 11);
        fault("hum silent loud 1", 11);
        fault("child at 1 at 1", 11);
        fault("child quick 1 quick 1", 14);
        fault("child knows 1 knows 1", 14);
        fault("child quick 1 at 1", 14);
        fault("child knows 1 quick 1", 14);
        fault("fog 0 0 0", 8);
        fault("fog 0 0 fog", 8);
        fault("hum 1", 4);
        fault("hum silent 1", 11);
        fault("child 1", 6);
        FogSchool x = Due.told("fog 3 4;fog 3 5");
        DUE.is("30: item by item", x.listed(3), 5);
    }

    /** Of all bytes, letters a to z, digits, ; and blanks alone may stand anywhere; others are faults of their own. */
    private static void textBytes() {
        for (int b = 0; b <= 255; b++) {
            FogSchool x = new FogSchool();
            Due.feedAll(x, "fog 1 ");
            x.feed(b, 1);
            boolean isDigit = b >= '0' && b <= '9';
            int want = isDigit ? 1 : b == ' ' ? -8 : -7;
            DUE.is("30: fog 1 and byte " + b, x.text(), want);
            Due.feedAll(x, "hum");
            x.feed(b, 1);
            boolean isLetter = b >= 'a' && b <= 'z';
            DUE.is("30: hum and byte " + b, x.text(), isLetter ? -1 : b == ';' ? -5 : b == ' ' ? 1 : -4);
            x.feed(b, 1);
            Due.feedAll(x, "hum");
            DUE.is("30: byte " + b + " and hum", x.text(), b == ' ' ? 1 : -1);
        }
    }

    private static void textBlanks() {
        items("hum at15note11loud15silent", 1);
        items("child at15quick9knows4095", 1);
        items("fog5 9", 1);
        items("  fog   5   9   ;  hum  ", 2);
        items("hum;hum", 2);
        items("hum ; hum", 2);
        fault("fog59", 3);
        fault("fog 59", 4);
        fault("h um", 0);
        fault("humat 1", 0);
        fault("hum a t 1", 4);
        fault("hum at 1 5", 9);
        fault("hum at1x", 7);
        FogSchool x = Due.told("hum at15note11loud15silent");
        int[] hum = {4, 15, 11, 15, 0, 1};
        for (int what = 0; what <= 5; what++) {
            DUE.is("30: without blanks, what " + what, x.of(0, what), hum[what]);
        }
    }

    private static void textIsFull() {
        FogSchool x = new FogSchool();
        DUE.is("30: a 9th of one text", Due.read(x, "hum;hum;hum;hum;hum;hum;hum;hum; hum"), -34);
        DUE.is("30: eight of one text", Due.read(x, "hum;hum;hum;hum;hum;hum;hum;hum"), 8);
        for (int kind = 0; kind <= 6; kind++) {
            DUE.is("30: a 9th " + WORDS[kind], Due.read(x, WORDS[kind]), -1);
            DUE.is("30: a 9th " + WORDS[kind] + ", wrong behind that", Due.read(x, "fog 0 0;" + WORDS[kind] + " at 16"), -9);
        }
        DUE.is("30: a 7th of one text", Due.read(x, "child;child;child;child;child;child;child"), -37);
        DUE.is("30: six of one text", Due.read(x, "child;child;child;child;child;child"), 6);
        DUE.is("30: a 7th", Due.read(x, "child"), -1);
        DUE.is("30: a 7th, wrong behind that", Due.read(x, " child at 16"), -2);
        DUE.is("30: what is wrong ahead of a 9th counts first", Due.read(x, "fog 6 0;hum"), -5);
        DUE.is("30: fog goes", Due.read(x, "fog 5 9"), 1);
        DUE.is("30: no more keepers", x.count(1), 8);
        DUE.is("30: no more children", x.count(2), 6);
    }

    private static String repeat(String part, int times, String end) {
        StringBuilder all = new StringBuilder();
        for (int i = 0; i < times; i++) {
            all.append(part);
        }
        return all.append(end).toString();
    }

    private static void textOfTheLongestTape() {
        FogSchool x = new FogSchool();
        DUE.is("30: 120 bytes", Due.read(x, repeat("fog 0 1;", 14, "fog 5 9 ")), 15);
        DUE.is("30: its last item", x.listed(5), 9);
        DUE.is("30: a number ends with the tape", Due.read(x, repeat("fog 0 1;", 14, "fog  5 8")), 15);
        DUE.is("30: it is told", x.listed(5), 8);
        DUE.is("30: a word ends with the tape", Due.read(x, repeat("fog 0 1;", 14, "   child")), 15);
        DUE.is("30: a fault at byte 119", Due.read(x, repeat("fog 0 1;", 14, "fog 5 9;").substring(0, 119) + "x"), -120);
        DUE.is("30: it ends too early behind byte 119", Due.read(x, repeat("fog 0 1;", 15, "")), -121);
        DUE.is("30: blanks alone", Due.read(x, repeat(" ", 120, "")), -121);
        DUE.is("30: one word alone", Due.read(x, repeat("a", 120, "")), -1);
        DUE.is("30: zeros", Due.read(x, "hum at " + repeat("0", 111, "15")), 1);
        DUE.is("30: they count for nothing", x.of(0, 1), 15);
        FogSchool most = new FogSchool();
        DUE.is("30: as many items as can be",
            Due.read(most, repeat("hum;", 8, "") + repeat("child;", 6, "") + repeat("fog0 0;", 6, "fog5 9")), 21);
        DUE.is("30: the last of them", most.listed(5), 9);
    }

    /** Bytes of an earlier text stand behind the tape's end no more. */
    private static void textForgets() {
        FogSchool x = new FogSchool();
        Due.read(x, "fog 0 11111");
        DUE.is("30: no earlier digits", Due.read(x, "fog 0 1"), 1);
        DUE.is("30: the digit alone", x.listed(0), 1);
        Due.read(x, "hums hums hums");
        DUE.is("30: no earlier letters", Due.read(x, "hum"), 1);
        Due.feedAll(x, "hum;hum;hum");
        x.wipe();
        DUE.is("30: no wiped items", Due.read(x, "hum"), 1);
        Due.feedAll(x, "hum silent");
        x.wipe();
        DUE.is("30: no wiped words", Due.read(x, "hum "), 1);
        DUE.is("30: not silent", x.of(x.count(1) - 1, 5), 0);
    }

    private static void textChangesNothing() {
        FogSchool x = Due.told("fog 0 7;hum;child");
        x.hold(0, 0);
        x.seed(9);
        DUE.is("30: wrong at its end", Due.read(x, "fog 0 1;child knows 3;echo at 3 silent;fog 6"), -44);
        DUE.is("30: the list stays", x.listed(0), 7);
        DUE.is("30: one keeper stays", x.count(1), 1);
        DUE.is("30: one child stays", x.count(2), 1);
        DUE.is("30: the spot stays", x.as(0, 4), 0);
        DUE.is("30: z stays", x.count(6), 9);
        DUE.is("30: the next keeper is number 1", x.keeper(0, 9), 1);
        DUE.is("30: not silent", x.of(1, 5), 0);
        DUE.is("30: the next child is number 1", x.child(9, 9), 1);
        DUE.is("30: it has learnt nothing", x.ofChild(1, 2), 0);
    }
}
