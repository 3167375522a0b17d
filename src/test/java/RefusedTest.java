import java.util.ArrayList;
import java.util.List;
import java.util.function.Supplier;

/**
 * One that answers a finding changes nothing but status(), and one that only asks changes nothing at all:
 * of two coasts alike one is called, and then all that can be seen of both is set side by side.
 */
public final class RefusedTest {
    private static final Due DUE = new Due("RefusedTest");

    interface Act {
        long on(FogSchool x);
    }

    public static void main(String[] args) {
        coast();
        days();
        whatWillBe();
        howToLearn();
        toldLearning();
        autumns();
        spots();
        sheets();
        images();
        asking();
        faults();
        DUE.end();
    }

    /** Full of keepers, of children and of bytes, with an image of three days ago, and sheet 3 missing. */
    private static FogSchool full() {
        FogSchool x = Due.most();
        x.hold(9, 7);
        x.go(3);
        x.image();
        x.go(3);
        x.teach(0, 3, 4080);
        x.teach(5, 2, 4095);
        x.change(4, 4, 55);
        x.change(7, 5, 1);
        x.change(6, 3, 15);
        x.fog(2, 0);
        x.fog(4, 8);
        x.seed(123456789);
        x.hold(0, 2);
        x.hold(9, -1);
        Due.sheetOf(x, 0, 8, 1, 2, 3, 4, 5, 6);
        Due.sheetOf(x, 1, 16, 9, 8, 7, 6, 5, 4);
        Due.sheetOf(x, 2, 8, 0, 0, 9, 9, 0, 0);
        for (int i = 0; i < 14; i++) {
            Due.feedAll(x, "fog 0 1;");
        }
        Due.feedAll(x, "fog 5 9 ");
        return x;
    }

    /** Far beyond 512 calls, where answers are free; but the class keeps to the document there, too. */
    private static FogSchool late() {
        FogSchool x = full();
        for (int i = 0; i < 1666; i++) {
            x.go(60);
        }
        return x;
    }

    private static FogSchool torn() {
        FogSchool x = full();
        x.tear();
        return x;
    }

    private static void addCoast(List<Long> seen, FogSchool x) {
        for (int what = 0; what <= 7; what++) {
            seen.add((long) x.count(what));
            seen.add((long) x.now(what));
        }
        for (int i = 0; i <= 5; i++) {
            seen.add((long) x.listed(i));
        }
        for (int k = 0; k <= 7; k++) {
            for (int what = 0; what <= 6; what++) {
                seen.add((long) x.of(k, what));
            }
        }
        for (int c = 0; c <= 5; c++) {
            for (int what = 0; what <= 3; what++) {
                seen.add((long) x.ofChild(c, what));
            }
        }
        for (int spot = 0; spot <= 9; spot++) {
            seen.add((long) x.as(spot, 0));
        }
    }

    private static void addSheets(List<Long> seen, FogSchool x) {
        for (int s = 0; s <= 3; s++) {
            seen.add((long) x.copy(s, 6, s, 6, 0));
            seen.add((long) x.copy(s, 7, s, 7, 0));
            seen.add((long) x.copy(s, 0, (s + 1) % 4, 0, 0));
            seen.add((long) x.load(s));
            for (int i = 0; i <= 5; i++) {
                seen.add((long) x.listed(i));
            }
        }
    }

    /** Looking at it spoils it: sheets are loaded, the tape is read, and the image taken up. */
    private static List<Long> all(FogSchool x) {
        List<Long> seen = new ArrayList<>();
        addCoast(seen, x);
        addSheets(seen, x);
        seen.add((long) x.text());
        for (int i = 0; i <= 5; i++) {
            seen.add((long) x.listed(i));
        }
        seen.add((long) x.undo());
        addCoast(seen, x);
        return seen;
    }

    private static int[] status(FogSchool x) {
        int[] told = new int[8];
        for (int which = -1; which <= 6; which++) {
            told[which + 1] = x.status(which);
        }
        return told;
    }

    private static void refused(String what, int finding, Act act) {
        refused(what, RefusedTest::full, finding, act);
    }

    private static void refused(String what, Supplier<FogSchool> made, int finding, Act act) {
        FogSchool x = made.get();
        FogSchool twin = made.get();
        int[] ahead = status(x);
        DUE.is(what, act.on(x), finding);
        int[] behind = status(x);
        int index = 1 + Due.BEYOND - finding;
        for (int i = 0; i <= 7; i++) {
            DUE.is(what + ": status " + (i - 1), behind[i], ahead[i] + (i == 0 || i == index ? 1 : 0));
        }
        DUE.holds(what + " changes nothing else", all(x).equals(all(twin)));
    }

    private static void asks(String what, Act act) {
        FogSchool x = full();
        FogSchool twin = full();
        int[] ahead = status(x);
        DUE.holds(what + " is answered", act.on(x) >= -1000000);
        int[] behind = status(x);
        for (int i = 0; i <= 7; i++) {
            DUE.is(what + ": status " + (i - 1), behind[i], ahead[i]);
        }
        DUE.holds(what + " changes nothing", all(x).equals(all(twin)));
    }

    private static void coast() {
        refused("2: place -1", Due.BEYOND, x -> x.fog(-1, 1));
        refused("2: place 6", Due.BEYOND, x -> x.fog(6, 1));
        refused("2: fog -1", Due.BEYOND, x -> x.fog(0, -1));
        refused("2: fog 10", Due.BEYOND, x -> x.fog(0, 10));
        refused("3: place 6", Due.BEYOND, x -> x.listed(6));
        refused("4: kind 7", Due.BEYOND, x -> x.keeper(7, 1));
        refused("4: cell 16", Due.BEYOND, x -> x.keeper(1, 16));
        refused("4: a 9th", Due.FULL, x -> x.keeper(1, 1));
        refused("5: cell 16", Due.BEYOND, x -> x.child(16, 1));
        refused("5: quick 10", Due.BEYOND, x -> x.child(1, 10));
        refused("5: a 7th", Due.FULL, x -> x.child(1, 1));
        refused("6: keeper 8", Due.BEYOND, x -> x.of(8, 0));
        refused("6: what 11", Due.BEYOND, x -> x.of(0, 11));
        refused("7: keeper 8", Due.BEYOND, x -> x.change(8, 1, 1));
        refused("7: what 6", Due.BEYOND, x -> x.change(0, 6, 1));
        int[] tops = {6, 15, 11, 15, 99, 1};
        for (int what = 0; what <= 5; what++) {
            int chosen = what;
            refused("7: above " + what, Due.BEYOND, x -> x.change(0, chosen, tops[chosen] + 1));
            refused("7: below " + what, Due.BEYOND, x -> x.change(0, chosen, -1));
        }
        refused("8: child 6", Due.BEYOND, x -> x.ofChild(6, 0));
        refused("8: what 4", Due.BEYOND, x -> x.ofChild(0, 4));
        refused("9: child 6", Due.BEYOND, x -> x.teach(6, 1, 1));
        refused("9: what 4", Due.BEYOND, x -> x.teach(0, 4, 1));
        int[] ofChild = {15, 9, 4095, 4095};
        for (int what = 0; what <= 3; what++) {
            int chosen = what;
            refused("9: above " + what, Due.BEYOND, x -> x.teach(0, chosen, ofChild[chosen] + 1));
            refused("9: below " + what, Due.BEYOND, x -> x.teach(0, chosen, -1));
        }
        refused("10: child 6", Due.BEYOND, x -> x.hears(6, 1));
        refused("10: fog 0", Due.BEYOND, x -> x.hears(0, 0));
        refused("10: fog 10", Due.BEYOND, x -> x.hears(0, 10));
    }

    private static void days() {
        refused("11: 0 days", Due.BEYOND, x -> x.go(0));
        refused("11: 61 days", Due.BEYOND, x -> x.go(61));
        refused("11: -1 days", Due.BEYOND, x -> x.go(-1));
        refused("11: beyond the last day", RefusedTest::late, Due.STATE, x -> x.go(60));
        refused("11: 61 days beyond the last day", RefusedTest::late, Due.BEYOND, x -> x.go(61));
        refused("12: what 8", Due.BEYOND, x -> x.now(8));
        refused("12: what -1", Due.BEYOND, x -> x.now(-1));
    }

    private static void whatWillBe() {
        refused("13: keeper 8", Due.BEYOND, x -> x.ahead(8, 2, 9));
        refused("13: what 3", Due.BEYOND, x -> x.ahead(0, 3, 9));
        refused("13: 101 days", Due.BEYOND, x -> x.ahead(0, 2, 101));
        refused("14: child 6", Due.BEYOND, x -> x.later(6, 2, 9));
        refused("14: what 1", Due.BEYOND, x -> x.later(0, 1, 9));
        refused("14: 101 days", Due.BEYOND, x -> x.later(0, 2, 101));
        refused("15: child 6", Due.BEYOND, x -> x.learns(6, 0));
        refused("15: note 12", Due.BEYOND, x -> x.learns(0, 12));
        refused("15: never", RefusedTest::silenced, Due.NONE, x -> x.learns(2, 11));
        refused("16: note 12", Due.BEYOND, x -> x.taught(12));
        refused("16: never", RefusedTest::silenced, Due.NONE, x -> x.taught(11));
        refused("17: keeper 8", Due.BEYOND, x -> x.weary(8, 1));
        refused("17: v 100", Due.BEYOND, x -> x.weary(0, 100));
        refused("17: never", Due.NONE, x -> x.weary(2, 1));
    }

    private static FogSchool silenced() {
        FogSchool x = full();
        for (int k = 0; k <= 7; k++) {
            x.change(k, 5, 1);
        }
        return x;
    }

    private static void howToLearn() {
        refused("18: child 6", Due.BEYOND, x -> x.seatFor(6, 9));
        refused("18: 61 days", Due.BEYOND, x -> x.seatFor(0, 61));
        refused("19: child 6", Due.BEYOND, x -> x.quickFor(6, 0, 9));
        refused("19: note 12", Due.BEYOND, x -> x.quickFor(0, 12, 9));
        refused("19: 61 days", Due.BEYOND, x -> x.quickFor(0, 0, 61));
        refused("19: never", RefusedTest::silenced, Due.NONE, x -> x.quickFor(2, 11, 60));
        refused("20: keeper 8", Due.BEYOND, x -> x.kindFor(8, 9));
        refused("20: 61 days", Due.BEYOND, x -> x.kindFor(0, 61));
        refused("21: place 6", Due.BEYOND, x -> x.fogFor(6, 1, 9));
        refused("21: 73 notes", Due.BEYOND, x -> x.fogFor(0, 73, 9));
        refused("21: 61 days", Due.BEYOND, x -> x.fogFor(0, 1, 61));
        refused("21: never", RefusedTest::silenced, Due.NONE, x -> x.fogFor(0, 72, 60));
        refused("22: 21 days", Due.BEYOND, x -> x.hush(21));
        refused("22: -1 days", Due.BEYOND, x -> x.hush(-1));
    }

    private static void toldLearning() {
        refused("23: sheet 4, child 6", Due.BEYOND, x -> x.fits(4, 6));
        refused("23: sheet 3, child 6", Due.MISSING, x -> x.fits(3, 6));
        refused("23: sheet 0, child 6", Due.BEYOND, x -> x.fits(0, 6));
        refused("24: sheet 4, keeper 8", Due.BEYOND, x -> x.kinds(4, 8));
        refused("24: sheet 3, keeper 8", Due.MISSING, x -> x.kinds(3, 8));
        refused("24: sheet 0, keeper 8", Due.BEYOND, x -> x.kinds(0, 8));
    }

    private static void autumns() {
        refused("25: 0 times", Due.BEYOND, x -> x.autumn(0));
        refused("25: 21 times", Due.BEYOND, x -> x.autumn(21));
        refused("25: beyond the last day", RefusedTest::lastDay, Due.STATE, x -> x.autumn(1));
        refused("26: child 6", Due.BEYOND, x -> x.odds(6, 0, 1, 0));
        refused("26: keeper 8", Due.BEYOND, x -> x.odds(0, 8, 1, 0));
        refused("26: 18 fogs", Due.BEYOND, x -> x.odds(0, 0, 18, 0));
        refused("26: what 2", Due.BEYOND, x -> x.odds(0, 0, 1, 2));
        refused("28: n 0", Due.BEYOND, x -> x.feed(59, 0));
        refused("28: n 5", Due.BEYOND, x -> x.feed(59, 5));
        refused("28: a 121st byte", Due.FULL, x -> x.feed(59, 1));
    }

    private static FogSchool lastDay() {
        FogSchool x = late();
        x.go(99999 - x.now(0));
        return x;
    }

    private static void spots() {
        refused("31: spot 10", Due.BEYOND, x -> x.hold(10, 0));
        refused("31: keeper 8", Due.BEYOND, x -> x.hold(0, 8));
        refused("31: keeper -2", Due.BEYOND, x -> x.hold(0, -2));
        refused("32: spot 10", Due.BEYOND, x -> x.as(10, 0));
        refused("32: kind 7", Due.BEYOND, x -> x.as(0, 7));
        refused("32: nothing, kind 7", Due.BEYOND, x -> x.as(9, 7));
        refused("32: nothing", Due.MISSING, x -> x.as(9, 0));
        refused("32: no echo", Due.KIND, x -> x.as(0, 5));
    }

    private static void sheets() {
        refused("33: sheet 4", Due.BEYOND, x -> x.sheet(4, 8, 1));
        refused("33: bits 9", Due.BEYOND, x -> x.sheet(0, 9, 1));
        refused("33: n -1", Due.SIZE, x -> x.sheet(0, 8, -1));
        refused("33: n -1, bits 0", Due.SIZE, x -> x.sheet(0, 0, -1));
        refused("33: n -1, bits 9", Due.BEYOND, x -> x.sheet(0, 9, -1));
        refused("33: n 41", Due.BEYOND, x -> x.sheet(0, 8, 41));
        refused("33: n 41, bits 0", Due.BEYOND, x -> x.sheet(0, 0, 41));
        refused("34: sheet 4", Due.BEYOND, x -> x.write(4, 0, 7));
        refused("34: missing, number -1", Due.MISSING, x -> x.write(3, -1, 7));
        refused("34: number 6", Due.BEYOND, x -> x.write(0, 6, 7));
        refused("34: number -1", Due.BEYOND, x -> x.write(0, -1, 7));
        refused("35: sheet 4", Due.BEYOND, x -> x.copy(4, 0, 3, 0, 1));
        refused("35: to sheet 4", Due.BEYOND, x -> x.copy(3, 0, 4, 0, 1));
        refused("35: missing", Due.MISSING, x -> x.copy(3, -1, 0, 0, 1));
        refused("35: to one that is missing", Due.MISSING, x -> x.copy(0, -1, 3, 0, 1));
        refused("35: other bits", Due.KIND, x -> x.copy(0, -1, 1, 0, 1));
        refused("35: too many", Due.BEYOND, x -> x.copy(0, 1, 2, 0, 6));
        refused("35: to too many", Due.BEYOND, x -> x.copy(0, 0, 2, 1, 6));
        refused("35: from -1", Due.BEYOND, x -> x.copy(0, -1, 2, 0, 1));
        refused("35: to -1", Due.BEYOND, x -> x.copy(0, 0, 2, -1, 1));
        refused("35: n -1", Due.BEYOND, x -> x.copy(0, 1, 2, 1, -1));
        refused("36: sheet 4", Due.BEYOND, x -> x.load(4));
        refused("36: missing", Due.MISSING, x -> x.load(3));
        refused("37: sheet 4", Due.BEYOND, x -> x.judge(4));
        refused("37: missing", Due.MISSING, x -> x.judge(3));
    }

    private static void images() {
        refused("39: nothing is kept", RefusedTest::torn, Due.NONE, x -> x.undo());
        refused("41: what 8", Due.BEYOND, x -> x.count(8));
        refused("41: what -1", Due.BEYOND, x -> x.count(-1));
        refused("42: which 7", Due.BEYOND, x -> x.status(7));
        refused("42: which -2", Due.BEYOND, x -> x.status(-2));
    }

    private static void asking() {
        asks("3: listed", x -> x.listed(5));
        asks("6: of", x -> x.of(7, 10));
        asks("8: ofChild", x -> x.ofChild(5, 3));
        asks("10: hears", x -> x.hears(5, 9));
        asks("12: now", x -> x.now(4));
        asks("13: ahead", x -> x.ahead(1, 6, 100));
        asks("14: later", x -> x.later(1, 3, 100));
        asks("15: learns", x -> x.learns(1, 2));
        asks("16: taught", x -> x.taught(0));
        asks("17: weary", x -> x.weary(0, 40));
        asks("18: seatFor", x -> x.seatFor(1, 60));
        asks("19: quickFor", x -> x.quickFor(1, 2, 60));
        asks("20: kindFor", x -> x.kindFor(3, 60));
        asks("21: fogFor", x -> x.fogFor(2, 13, 60));
        asks("22: hush", x -> x.hush(20));
        asks("23: fits", x -> x.fits(1, 1));
        asks("24: kinds", x -> x.kinds(0, 1));
        asks("26: odds", x -> x.odds(1, 0, 17, 0));
        asks("32: as", x -> x.as(0, 3));
        asks("35: copy of none", x -> x.copy(0, 6, 2, 6, 0));
        asks("37: judge", x -> x.judge(1));
        asks("41: count", x -> x.count(4));
        asks("42: status", x -> x.status(-1));
    }

    /** A fault changes nothing but that the tape is empty: as if it had been wiped. */
    private static void faults() {
        for (String text : new String[] {"", "fog 0 9;fog 6 0", "fog 1 1;fog 2 2;hum", "fog 3 3;child", "fog 4 4;fog 5 5;"}) {
            FogSchool x = full();
            FogSchool twin = full();
            x.wipe();
            twin.wipe();
            Due.feedAll(x, text);
            Due.feedAll(twin, text);
            DUE.holds("30: a fault in '" + text + "'", x.text() < 0);
            twin.wipe();
            int[] told = status(x);
            int[] due = status(twin);
            for (int i = 0; i <= 7; i++) {
                DUE.is("30: no finding by '" + text + "'", told[i], due[i]);
            }
            DUE.holds("30: nothing changes by '" + text + "'", all(x).equals(all(twin)));
        }
    }
}
