import java.util.Arrays;

/** A coast whose foghorns teach its children. README.md says how to use it. */
public final class FogSchool {
    private static final int LOW = -1000001;
    private static final int BEYOND = 0;
    private static final int FULL = 1;
    private static final int WRONG_KIND = 2;
    private static final int NONE = 3;
    private static final int STATE = 4;
    private static final int MISSING = 5;
    private static final int SIZE = 6;
    private static final int FINDINGS = 7;

    private static final int LAST_CELL = 15;
    private static final int NOTES = 12;
    private static final int LAST_NOTE = 11;
    private static final int ALL_NOTES = 4095;
    private static final int PLACES = 6;
    private static final int LAST_FOG = 9;
    private static final int LAST_QUICK = 9;
    private static final int LAST_LOUD = 15;
    private static final int LAST_KIND = 6;
    private static final int SPOTS = 10;
    private static final int SHEETS = 4;
    private static final int LAST_DAY = 99999;
    private static final int FARTHEST = 200;
    private static final int ANY = -1;

    private final Coast coast;
    /** What might be: made anew from the coast by each call that asks, so that none makes objects. */
    private final Coast draft;
    private final Coast kept;
    private final Tape tape;
    private final Sheet[] sheets;
    private final int[] findings;
    private boolean isKept;

    public FogSchool() {
        coast = new Coast();
        draft = new Coast();
        kept = new Coast();
        tape = new Tape();
        sheets = new Sheet[SHEETS];
        for (int s = 0; s < SHEETS; s++) {
            sheets[s] = new Sheet();
        }
        findings = new int[FINDINGS];
        isKept = false;
    }

    // ---- coast, keepers, children

    public int fog(int i, int v) {
        if (!isUpTo(i, PLACES - 1) || !isUpTo(v, LAST_FOG)) {
            return finding(BEYOND);
        }
        int was = coast.list[i];
        coast.list[i] = v;
        return was;
    }

    public int listed(int i) {
        if (!isUpTo(i, PLACES - 1)) {
            return finding(BEYOND);
        }
        return coast.list[i];
    }

    public int keeper(int kind, int cell) {
        if (!isUpTo(kind, LAST_KIND) || !isUpTo(cell, LAST_CELL)) {
            return finding(BEYOND);
        }
        if (coast.hasAllKeepers()) {
            return finding(FULL);
        }
        return coast.addKeeper(kind, cell);
    }

    public int child(int cell, int quick) {
        if (!isUpTo(cell, LAST_CELL) || !isUpTo(quick, LAST_QUICK)) {
            return finding(BEYOND);
        }
        if (coast.hasAllChildren()) {
            return finding(FULL);
        }
        return coast.addChild(cell, quick);
    }

    public int of(int keeper, int what) {
        if (!isKeeper(keeper) || !isUpTo(what, 10)) {
            return finding(BEYOND);
        }
        return coast.toldOfKeeper(keeper, what);
    }

    public int change(int keeper, int what, int v) {
        if (!isKeeper(keeper) || !isUpTo(what, Keeper.SILENT) || !isUpTo(v, Keeper.TOPS[what])) {
            return finding(BEYOND);
        }
        int[] row = coast.keepers[keeper].row;
        int was = row[what];
        row[what] = v;
        return was;
    }

    public int ofChild(int child, int what) {
        if (!isChild(child) || !isUpTo(what, Child.MISSED)) {
            return finding(BEYOND);
        }
        return coast.children[child].row[what];
    }

    public int teach(int child, int what, int v) {
        if (!isChild(child) || !isUpTo(what, Child.MISSED) || !isUpTo(v, Child.TOPS[what])) {
            return finding(BEYOND);
        }
        int[] row = coast.children[child].row;
        int was = row[what];
        row[what] = v;
        return was;
    }

    public int hears(int child, int fog) {
        if (!isChild(child) || fog < 1 || fog > LAST_FOG) {
            return finding(BEYOND);
        }
        int heard = 0;
        for (int k = 0; k < coast.keeperCount; k++) {
            if (coast.isHeard(k, child, fog)) {
                heard |= 1 << k;
            }
        }
        return heard;
    }

    // ---- days

    public int go(int n) {
        if (n < 1 || n > 60) {
            return finding(BEYOND);
        }
        if (coast.day + n > LAST_DAY) {
            return finding(STATE);
        }
        coast.passDays(n);
        return coast.learntTogether();
    }

    public int now(int what) {
        switch (what) {
            case 0: return coast.day;
            case 1: return coast.learntTogether();
            case 2: return coast.notesOfAll(Child.LEARNT);
            case 3: return coast.notesOfAll(Child.MISSED);
            case 4: return coast.notesGiven();
            case 5: return coast.tiredTogether();
            case 6: return coast.childrenWhoLearntAll();
            case 7: return coast.thickness();
            default: return finding(BEYOND);
        }
    }

    // ---- what will be (nothing changes)

    public int ahead(int keeper, int what, int n) {
        boolean isTold = what == 2 || what == 4 || what == 6;
        if (!isKeeper(keeper) || !isTold || !isUpTo(n, 100)) {
            return finding(BEYOND);
        }
        draftLoneKeeper(keeper);
        draft.passDays(n);
        return draft.toldOfKeeper(0, what);
    }

    public int later(int child, int what, int n) {
        boolean isTold = what == Child.LEARNT || what == Child.MISSED;
        if (!isChild(child) || !isTold || !isUpTo(n, 100)) {
            return finding(BEYOND);
        }
        draftLoneChild(child);
        draft.passDays(n);
        return draft.children[0].row[what];
    }

    public int learns(int child, int note) {
        if (!isChild(child) || !isUpTo(note, LAST_NOTE)) {
            return finding(BEYOND);
        }
        draftLoneChild(child);
        return daysUntilDraftLearnt(note);
    }

    public int taught(int note) {
        if (!isUpTo(note, LAST_NOTE)) {
            return finding(BEYOND);
        }
        draft.become(coast);
        return daysUntilDraftLearnt(note);
    }

    public int weary(int keeper, int v) {
        if (!isKeeper(keeper) || !isUpTo(v, Keeper.TOPS[Keeper.TIRED])) {
            return finding(BEYOND);
        }
        draftLoneKeeper(keeper);
        for (int days = 0; days <= FARTHEST; days++) {
            if (draft.keepers[0].row[Keeper.TIRED] >= v) {
                return days;
            }
            draft.passDay();
        }
        return finding(NONE);
    }

    // ---- how to learn

    public int seatFor(int child, int n) {
        if (!isChild(child) || !isUpTo(n, 60)) {
            return finding(BEYOND);
        }
        int best = 0;
        int most = -1;
        for (int cell = 0; cell <= LAST_CELL; cell++) {
            draftLoneChild(child);
            draft.children[0].row[Child.CELL] = cell;
            draft.passDays(n);
            int learnt = draft.learntTogether();
            if (learnt > most) {
                most = learnt;
                best = cell;
            }
        }
        return best;
    }

    public int quickFor(int child, int note, int n) {
        if (!isChild(child) || !isUpTo(note, LAST_NOTE) || !isUpTo(n, 60)) {
            return finding(BEYOND);
        }
        for (int quick = 0; quick <= LAST_QUICK; quick++) {
            draftLoneChild(child);
            draft.children[0].row[Child.QUICK] = quick;
            draft.passDays(n);
            if (draft.haveAllLearnt(note)) {
                return quick;
            }
        }
        return finding(NONE);
    }

    public int kindFor(int keeper, int n) {
        if (!isKeeper(keeper) || !isUpTo(n, 60)) {
            return finding(BEYOND);
        }
        int best = 0;
        int most = -1;
        for (int kind = 0; kind <= LAST_KIND; kind++) {
            draft.become(coast);
            draft.keepers[keeper].row[Keeper.KIND] = kind;
            draft.passDays(n);
            int learnt = draft.learntTogether();
            if (learnt > most) {
                most = learnt;
                best = kind;
            }
        }
        return best;
    }

    public int fogFor(int i, int v, int n) {
        if (!isUpTo(i, PLACES - 1) || !isUpTo(v, Coast.MOST_CHILDREN * NOTES) || !isUpTo(n, 60)) {
            return finding(BEYOND);
        }
        for (int f = LAST_FOG; f >= 0; f--) {
            draft.become(coast);
            draft.list[i] = f;
            draft.passDays(n);
            if (draft.learntTogether() >= v) {
                return f;
            }
        }
        return finding(NONE);
    }

    /**
     * Keepers don't heed one another, and nothing learnt is lost: so one who alone would teach
     * something must be silenced, and where all these are, nobody is left who teaches first.
     * There is just one such set, and NONE is never due.
     */
    public int hush(int n) {
        if (!isUpTo(n, 20)) {
            return finding(BEYOND);
        }
        int learntNow = coast.learntTogether();
        int silenced = 0;
        for (int k = 0; k < coast.keeperCount; k++) {
            draft.become(coast);
            draft.leaveOnlyKeeper(k);
            draft.passDays(n);
            if (draft.learntTogether() > learntNow) {
                silenced |= 1 << k;
            }
        }
        return silenced;
    }

    // ---- told learning

    public int fits(int s, int child) {
        int trouble = findingOfSheet(s);
        if (trouble != 0) {
            return trouble;
        }
        if (!isChild(child)) {
            return finding(BEYOND);
        }
        int fitting = 0;
        for (int quick = 0; quick <= LAST_QUICK; quick++) {
            draftLoneChild(child);
            draft.children[0].row[Child.QUICK] = quick;
            if (isDraftAsTold(sheets[s], draft.children[0].row, Child.LEARNT)) {
                fitting++;
            }
        }
        return fitting;
    }

    public int kinds(int s, int keeper) {
        int trouble = findingOfSheet(s);
        if (trouble != 0) {
            return trouble;
        }
        if (!isKeeper(keeper)) {
            return finding(BEYOND);
        }
        int fitting = 0;
        for (int kind = 0; kind <= LAST_KIND; kind++) {
            draftLoneKeeper(keeper);
            draft.keepers[0].row[Keeper.KIND] = kind;
            if (isDraftAsTold(sheets[s], draft.keepers[0].row, Keeper.NOTE)) {
                fitting |= 1 << kind;
            }
        }
        return fitting;
    }

    // ---- autumns

    public int autumn(int n) {
        if (n < 1 || n > 20) {
            return finding(BEYOND);
        }
        if (coast.day + n > LAST_DAY) {
            return finding(STATE);
        }
        for (int times = 0; times < n; times++) {
            coast.list[coast.day % PLACES] = coast.draw() % 10;
            int rower = coast.draw() % 8;
            if (rower < coast.childCount) {
                coast.children[rower].rowOn();
            }
            coast.passDay();
        }
        return coast.learntTogether();
    }

    public long odds(int child, int keeper, int n, int what) {
        if (!isChild(child) || !isKeeper(keeper) || !isUpTo(n, 17) || !isUpTo(what, 1)) {
            return finding(BEYOND);
        }
        int above = 0;
        for (int f = 1; f <= LAST_FOG; f++) {
            if (coast.isHeard(keeper, child, f)) {
                above++;
            }
        }
        int shared = greatestShared(above, 10);
        return power((what == 0 ? above : 10) / shared, n);
    }

    public int seed(int v) {
        int was = coast.z;
        coast.z = v;
        return was;
    }

    // ---- texts

    public int feed(int bytes, int n) {
        if (n < 1 || n > 4) {
            return finding(BEYOND);
        }
        if (tape.size + n > Tape.MOST) {
            return finding(FULL);
        }
        tape.append(bytes, n);
        return tape.size;
    }

    public int wipe() {
        int had = tape.size;
        tape.size = 0;
        return had;
    }

    public int text() {
        draft.become(coast);
        int answer = tape.readOnto(draft);
        tape.size = 0;
        if (answer >= 0) {
            coast.become(draft);
        }
        return answer;
    }

    // ---- spots, sheets

    public int hold(int spot, int keeper) {
        if (!isUpTo(spot, SPOTS - 1) || !(isKeeper(keeper) || keeper == Coast.NOTHING)) {
            return finding(BEYOND);
        }
        coast.spots[spot] = keeper;
        return 1;
    }

    public int as(int spot, int kind) {
        if (!isUpTo(spot, SPOTS - 1) || !isUpTo(kind, LAST_KIND)) {
            return finding(BEYOND);
        }
        int held = coast.spots[spot];
        if (!isKeeper(held)) {
            return finding(MISSING);
        }
        if (!coast.keepers[held].isOf(kind)) {
            return finding(WRONG_KIND);
        }
        return held;
    }

    public int sheet(int s, int bits, int n) {
        boolean isWidth = bits == 0 || bits == 8 || bits == 16 || bits == 32;
        if (!isSheet(s) || !isWidth) {
            return finding(BEYOND);
        }
        if (n < 0) {
            return finding(SIZE);
        }
        if (n > Sheet.MOST) {
            return finding(BEYOND);
        }
        sheets[s].begin(bits, n);
        return sheets[s].size;
    }

    public int write(int s, int i, int v) {
        int trouble = findingOfSheet(s);
        if (trouble != 0) {
            return trouble;
        }
        if (!isUpTo(i, sheets[s].size - 1)) {
            return finding(BEYOND);
        }
        sheets[s].put(i, v);
        return 1;
    }

    public int copy(int s, int from, int t, int to, int n) {
        if (!isSheet(s) || !isSheet(t)) {
            return finding(BEYOND);
        }
        if (sheets[s].isMissing() || sheets[t].isMissing()) {
            return finding(MISSING);
        }
        if (sheets[s].bits != sheets[t].bits) {
            return finding(WRONG_KIND);
        }
        if (!sheets[s].hasRun(from, n) || !sheets[t].hasRun(to, n)) {
            return finding(BEYOND);
        }
        System.arraycopy(sheets[s].numbers, from, sheets[t].numbers, to, n);
        return n;
    }

    public int load(int s) {
        int trouble = findingOfSheet(s);
        if (trouble != 0) {
            return trouble;
        }
        int came = 0;
        while (came < PLACES && came < sheets[s].size && isUpTo(sheets[s].numbers[came], LAST_FOG)) {
            coast.list[came] = sheets[s].numbers[came];
            came++;
        }
        return came;
    }

    public int judge(int s) {
        int trouble = findingOfSheet(s);
        if (trouble != 0) {
            return trouble;
        }
        for (int i = 0; i < sheets[s].size; i++) {
            if (!isChild(i) || coast.children[i].row[Child.LEARNT] != sheets[s].numbers[i]) {
                return 1 + i;
            }
        }
        return 0;
    }

    // ---- images

    public int image() {
        kept.become(coast);
        isKept = true;
        return 1;
    }

    public int undo() {
        if (!isKept) {
            return finding(NONE);
        }
        coast.become(kept);
        return coast.day;
    }

    public int tear() {
        int was = isKept ? 1 : 0;
        isKept = false;
        return was;
    }

    public int count(int what) {
        switch (what) {
            case 0: return coast.day;
            case 1: return coast.keeperCount;
            case 2: return coast.childCount;
            case 3: return coast.learntTogether();
            case 4: return coast.tiredTogether();
            case 5: return tape.size;
            case 6: return coast.z;
            case 7: return coast.spotsThatHold();
            default: return finding(BEYOND);
        }
    }

    public int status(int which) {
        if (which == -1) {
            int all = 0;
            for (int f = 0; f < FINDINGS; f++) {
                all += findings[f];
            }
            return all;
        }
        if (!isUpTo(which, FINDINGS - 1)) {
            return finding(BEYOND);
        }
        return findings[which];
    }

    // ---- helpers

    private int finding(int which) {
        findings[which]++;
        return LOW - which;
    }

    private static boolean isUpTo(int v, int top) {
        return v >= 0 && v <= top;
    }

    private boolean isKeeper(int keeper) {
        return keeper >= 0 && keeper < coast.keeperCount;
    }

    private boolean isChild(int child) {
        return child >= 0 && child < coast.childCount;
    }

    private static boolean isSheet(int s) {
        return s >= 0 && s < SHEETS;
    }

    /** The finding of a call that needs a sheet's numbers, or 0 if it has them. */
    private int findingOfSheet(int s) {
        if (!isSheet(s)) {
            return finding(BEYOND);
        }
        return sheets[s].isMissing() ? finding(MISSING) : 0;
    }

    /** Children don't touch one another: one alone learns as it does among all. */
    private void draftLoneChild(int child) {
        draft.become(coast);
        draft.leaveOnlyChild(child);
    }

    /** Keepers heed neither children nor one another: one alone goes on as it does among all. */
    private void draftLoneKeeper(int keeper) {
        draft.become(coast);
        draft.leaveOnlyKeeper(keeper);
        draft.childCount = 0;
    }

    private int daysUntilDraftLearnt(int note) {
        for (int days = 0; days <= FARTHEST; days++) {
            if (draft.haveAllLearnt(note)) {
                return days;
            }
            draft.passDay();
        }
        return finding(NONE);
    }

    /** The row is one of the draft's, so that it changes as days go by there. */
    private boolean isDraftAsTold(Sheet told, int[] row, int what) {
        for (int i = 0; i < told.size; i++) {
            if (told.numbers[i] != ANY && told.numbers[i] != row[what]) {
                return false;
            }
            draft.passDay();
        }
        return true;
    }

    private static int greatestShared(int a, int b) {
        for (int d = b; d > 1; d--) {
            if (a % d == 0 && b % d == 0) {
                return d;
            }
        }
        return 1;
    }

    private static long power(int base, int n) {
        long product = 1;
        for (int times = 0; times < n; times++) {
            product *= base;
        }
        return product;
    }

    private static final class Keeper {
        static final int KIND = 0;
        static final int CELL = 1;
        static final int NOTE = 2;
        static final int LOUD = 3;
        static final int TIRED = 4;
        static final int SILENT = 5;
        static final int[] TOPS = {LAST_KIND, LAST_CELL, LAST_NOTE, LAST_LOUD, 99, 1};

        static final int HEAD = 1;
        static final int DRUNK = 2;
        static final int POET = 3;
        static final int HUM = 4;
        static final int ECHO = 5;
        static final int ELDER = 6;
        static final int[] UNDER = {-1, 0, 0, DRUNK, POET, 0, HEAD};
        static final int[] TEMPO = {3, 5, 2, 4, 0, 7, 6};
        static final int[] TIRES = {2, 1, 5, 5, 0, 0, 3};

        static final int FIRST_LOUD = 6;

        final int[] row;

        Keeper() {
            row = new int[6];
        }

        void begin(int kind, int cell) {
            row[KIND] = kind;
            row[CELL] = cell;
            row[NOTE] = 0;
            row[LOUD] = FIRST_LOUD;
            row[TIRED] = 0;
            row[SILENT] = 0;
        }

        boolean isSilent() {
            return row[SILENT] == 1;
        }

        boolean isOf(int kind) {
            int own = row[KIND];
            for (int steps = 0; steps <= LAST_KIND && own >= 0; steps++) {
                if (own == kind) {
                    return true;
                }
                own = UNDER[own];
            }
            return false;
        }

        int gives(int day) {
            switch (row[KIND]) {
                case DRUNK: return (row[NOTE] + row[TIRED]) % NOTES;
                case POET: return (row[NOTE] + row[TIRED] + day) % NOTES;
                case HUM: return 0;
                case ECHO: return LAST_NOTE - row[NOTE];
                case ELDER: return (row[NOTE] + 11) % NOTES;
                default: return row[NOTE];
            }
        }

        int reaches(int f) {
            int plain = Math.max(0, row[LOUD] - f / 2);
            switch (row[KIND]) {
                case HEAD:
                case ELDER: return plain + 2;
                case DRUNK:
                case POET: return Math.max(0, plain - row[TIRED] / 10);
                case HUM: return 15;
                case ECHO: return plain / 2;
                default: return plain;
            }
        }

        int tempo() {
            return TEMPO[row[KIND]];
        }

        int tires() {
            return TIRES[row[KIND]];
        }

        int turns(int day) {
            int ofDrunk = day % 2 == 0 ? 1 : 0;
            switch (row[KIND]) {
                case DRUNK: return ofDrunk;
                case POET: return ofDrunk + 5;
                case HUM: return 0;
                case ECHO: return 11;
                case ELDER: return 2;
                default: return 1;
            }
        }

        void goOn(int day) {
            row[TIRED] = Math.min(TOPS[TIRED], row[TIRED] + tires());
            row[NOTE] = (row[NOTE] + turns(day)) % NOTES;
        }

        void rest() {
            row[TIRED] = Math.max(0, row[TIRED] - 3);
        }
    }

    private static final class Child {
        static final int CELL = 0;
        static final int QUICK = 1;
        static final int LEARNT = 2;
        static final int MISSED = 3;
        static final int[] TOPS = {LAST_CELL, LAST_QUICK, ALL_NOTES, ALL_NOTES};

        static final int FIRST_QUICK = 3;

        final int[] row;

        Child() {
            row = new int[4];
        }

        void begin(int cell, int quick) {
            row[CELL] = cell;
            row[QUICK] = quick;
            row[LEARNT] = 0;
            row[MISSED] = 0;
        }

        boolean hasLearnt(int note) {
            return (row[LEARNT] & 1 << note) != 0;
        }

        void hear(int note, int tempo) {
            if (hasLearnt(note)) {
                return;
            }
            boolean isReady = note == 0 || hasLearnt(note - 1);
            if (row[QUICK] >= tempo && isReady) {
                row[LEARNT] |= 1 << note;
                row[MISSED] &= ~(1 << note);
            } else {
                row[MISSED] |= 1 << note;
            }
        }

        void rowOn() {
            row[CELL] = row[CELL] < LAST_CELL ? row[CELL] + 1 : 0;
        }
    }

    /** All that an image keeps. */
    private static final class Coast {
        static final int MOST_KEEPERS = 8;
        static final int MOST_CHILDREN = 6;
        static final int NOTHING = -1;

        final int[] list;
        final int[] spots;
        final Keeper[] keepers;
        final Child[] children;
        int keeperCount;
        int childCount;
        int day;
        int z;

        Coast() {
            list = new int[PLACES];
            spots = new int[SPOTS];
            Arrays.fill(spots, NOTHING);
            keepers = new Keeper[MOST_KEEPERS];
            for (int k = 0; k < MOST_KEEPERS; k++) {
                keepers[k] = new Keeper();
            }
            children = new Child[MOST_CHILDREN];
            for (int c = 0; c < MOST_CHILDREN; c++) {
                children[c] = new Child();
            }
            keeperCount = 0;
            childCount = 0;
            day = 0;
            z = 1;
        }

        void become(Coast other) {
            System.arraycopy(other.list, 0, list, 0, PLACES);
            System.arraycopy(other.spots, 0, spots, 0, SPOTS);
            for (int k = 0; k < other.keeperCount; k++) {
                System.arraycopy(other.keepers[k].row, 0, keepers[k].row, 0, keepers[k].row.length);
            }
            for (int c = 0; c < other.childCount; c++) {
                System.arraycopy(other.children[c].row, 0, children[c].row, 0, children[c].row.length);
            }
            keeperCount = other.keeperCount;
            childCount = other.childCount;
            day = other.day;
            z = other.z;
        }

        /** It is number 0 then. */
        void leaveOnlyKeeper(int keeper) {
            System.arraycopy(keepers[keeper].row, 0, keepers[0].row, 0, keepers[0].row.length);
            keeperCount = 1;
        }

        /** It is number 0 then. */
        void leaveOnlyChild(int child) {
            System.arraycopy(children[child].row, 0, children[0].row, 0, children[0].row.length);
            childCount = 1;
        }

        boolean hasAllKeepers() {
            return keeperCount >= MOST_KEEPERS;
        }

        boolean hasAllChildren() {
            return childCount >= MOST_CHILDREN;
        }

        int addKeeper(int kind, int cell) {
            keepers[keeperCount].begin(kind, cell);
            return keeperCount++;
        }

        int addChild(int cell, int quick) {
            children[childCount].begin(cell, quick);
            return childCount++;
        }

        int thickness() {
            return list[day % PLACES];
        }

        int toldOfKeeper(int keeper, int what) {
            Keeper one = keepers[keeper];
            switch (what) {
                case 6: return one.gives(day);
                case 7: return one.reaches(thickness());
                case 8: return one.tempo();
                case 9: return one.tires();
                case 10: return one.turns(day);
                default: return one.row[what];
            }
        }

        boolean isHeard(int keeper, int child, int f) {
            return !keepers[keeper].isSilent()
                && isWithin(keepers[keeper], children[child], keepers[keeper].reaches(f));
        }

        static boolean isWithin(Keeper keeper, Child child, int reach) {
            return Math.abs(keeper.row[Keeper.CELL] - child.row[Child.CELL]) <= reach;
        }

        int draw() {
            z = z * 1103515245 + 12345;
            return z >>> 8;
        }

        void passDays(int n) {
            for (int days = 0; days < n; days++) {
                passDay();
            }
        }

        void passDay() {
            int f = thickness();
            for (int k = 0; k < keeperCount; k++) {
                if (f == 0) {
                    keepers[k].rest();
                } else if (!keepers[k].isSilent()) {
                    sound(keepers[k], f);
                }
            }
            day = Math.min(LAST_DAY, day + 1);
        }

        void sound(Keeper keeper, int f) {
            int note = keeper.gives(day);
            int reach = keeper.reaches(f);
            int tempo = keeper.tempo();
            for (int c = 0; c < childCount; c++) {
                if (isWithin(keeper, children[c], reach)) {
                    children[c].hear(note, tempo);
                }
            }
            keeper.goOn(day);
        }

        boolean haveAllLearnt(int note) {
            for (int c = 0; c < childCount; c++) {
                if (!children[c].hasLearnt(note)) {
                    return false;
                }
            }
            return true;
        }

        int learntTogether() {
            int notes = 0;
            for (int c = 0; c < childCount; c++) {
                notes += Integer.bitCount(children[c].row[Child.LEARNT]);
            }
            return notes;
        }

        int notesOfAll(int what) {
            int notes = 0;
            for (int c = 0; c < childCount; c++) {
                notes |= children[c].row[what];
            }
            return notes;
        }

        int notesGiven() {
            int notes = 0;
            for (int k = 0; k < keeperCount; k++) {
                if (!keepers[k].isSilent()) {
                    notes |= 1 << keepers[k].gives(day);
                }
            }
            return notes;
        }

        int tiredTogether() {
            int tired = 0;
            for (int k = 0; k < keeperCount; k++) {
                tired += keepers[k].row[Keeper.TIRED];
            }
            return tired;
        }

        int childrenWhoLearntAll() {
            int who = 0;
            for (int c = 0; c < childCount; c++) {
                if (children[c].row[Child.LEARNT] == ALL_NOTES) {
                    who |= 1 << c;
                }
            }
            return who;
        }

        int spotsThatHold() {
            int holding = 0;
            for (int s = 0; s < SPOTS; s++) {
                if (spots[s] != NOTHING) {
                    holding++;
                }
            }
            return holding;
        }
    }

    private static final class Sheet {
        static final int MOST = 40;

        final int[] numbers;
        int bits;
        int size;

        Sheet() {
            numbers = new int[MOST];
            bits = 0;
            size = 0;
        }

        boolean isMissing() {
            return bits == 0;
        }

        void begin(int newBits, int n) {
            bits = newBits;
            size = newBits == 0 ? 0 : n;
            Arrays.fill(numbers, 0);
        }

        void put(int i, int v) {
            switch (bits) {
                case 8:
                    numbers[i] = (byte) v;
                    break;
                case 16:
                    numbers[i] = (short) v;
                    break;
                default:
                    numbers[i] = v;
            }
        }

        boolean hasRun(int from, int n) {
            return from >= 0 && n >= 0 && from <= size && n <= size - from;
        }
    }

    /** The tape and its reader, which stands at one token; a fault is where that token begins. */
    private static final class Tape {
        static final int MOST = 120;
        static final int GREATEST_NUMBER = 9999;

        static final int END = 0;
        static final int WORD = 1;
        static final int NUMBER = 2;
        static final int SEMICOLON = 3;
        static final int OTHER = 4;

        final byte[] bytes;
        int size;
        int token;
        int begin;
        int behind;
        int number;

        Tape() {
            bytes = new byte[MOST];
            size = 0;
            token = END;
            begin = 0;
            behind = 0;
            number = 0;
        }

        void append(int word, int n) {
            for (int shift = 8 * (n - 1); shift >= 0; shift -= 8) {
                bytes[size] = (byte) (word >> shift);
                size++;
            }
        }

        /** How many items there are, or -1 less the fault: then the draft is spoilt. */
        int readOnto(Coast draft) {
            behind = 0;
            for (int items = 1; items <= MOST; items++) {
                step();
                if (!readItem(draft)) {
                    return -1 - begin;
                }
                if (token == END) {
                    return items;
                }
                if (token != SEMICOLON) {
                    return -1 - begin;
                }
            }
            return -1 - begin;
        }

        boolean readItem(Coast draft) {
            for (int kind = 0; kind <= LAST_KIND; kind++) {
                if (isAt(wordOf(kind))) {
                    return readKeeper(draft, kind);
                }
            }
            if (isAt("child")) {
                return readChild(draft);
            }
            return isAt("fog") && readFog(draft);
        }

        boolean readKeeper(Coast draft, int kind) {
            if (draft.hasAllKeepers()) {
                return false;
            }
            step();
            int cell = readOption("at", LAST_CELL, 0);
            int note = cell < 0 ? -1 : readOption("note", LAST_NOTE, 0);
            int loud = note < 0 ? -1 : readOption("loud", LAST_LOUD, Keeper.FIRST_LOUD);
            if (loud < 0) {
                return false;
            }
            int[] row = draft.keepers[draft.addKeeper(kind, cell)].row;
            row[Keeper.NOTE] = note;
            row[Keeper.LOUD] = loud;
            if (isAt("silent")) {
                row[Keeper.SILENT] = 1;
                step();
            }
            return true;
        }

        boolean readChild(Coast draft) {
            if (draft.hasAllChildren()) {
                return false;
            }
            step();
            int cell = readOption("at", LAST_CELL, 0);
            int quick = cell < 0 ? -1 : readOption("quick", LAST_QUICK, Child.FIRST_QUICK);
            int learnt = quick < 0 ? -1 : readOption("knows", ALL_NOTES, 0);
            if (learnt < 0) {
                return false;
            }
            draft.children[draft.addChild(cell, quick)].row[Child.LEARNT] = learnt;
            return true;
        }

        boolean readFog(Coast draft) {
            step();
            int place = numberUpTo(PLACES - 1);
            if (place < 0) {
                return false;
            }
            step();
            int thick = numberUpTo(LAST_FOG);
            if (thick < 0) {
                return false;
            }
            step();
            draft.list[place] = thick;
            return true;
        }

        /** The number behind the word, what holds without the word, or -1 at a fault. */
        int readOption(String word, int top, int without) {
            if (!isAt(word)) {
                return without;
            }
            step();
            int read = numberUpTo(top);
            if (read >= 0) {
                step();
            }
            return read;
        }

        /** The number at which the reader stands, or -1 if it isn't one up to the top. */
        int numberUpTo(int top) {
            return token == NUMBER && number <= top ? number : -1;
        }

        boolean isAt(String word) {
            if (token != WORD || behind - begin != word.length()) {
                return false;
            }
            for (int i = 0; i < word.length(); i++) {
                if (bytes[begin + i] != word.charAt(i)) {
                    return false;
                }
            }
            return true;
        }

        void step() {
            begin = behind;
            while (begin < size && bytes[begin] == ' ') {
                begin++;
            }
            behind = begin;
            if (begin >= size) {
                token = END;
            } else if (isLetter(bytes[begin])) {
                token = WORD;
                while (behind < size && isLetter(bytes[behind])) {
                    behind++;
                }
            } else if (isDigit(bytes[begin])) {
                token = NUMBER;
                number = 0;
                while (behind < size && isDigit(bytes[behind])) {
                    number = Math.min(GREATEST_NUMBER + 1, 10 * number + bytes[behind] - '0');
                    behind++;
                }
            } else {
                token = bytes[begin] == ';' ? SEMICOLON : OTHER;
                behind++;
            }
        }

        static boolean isLetter(byte b) {
            return b >= 'a' && b <= 'z';
        }

        static boolean isDigit(byte b) {
            return b >= '0' && b <= '9';
        }

        static String wordOf(int kind) {
            switch (kind) {
                case Keeper.HEAD: return "head";
                case Keeper.DRUNK: return "drunk";
                case Keeper.POET: return "poet";
                case Keeper.HUM: return "hum";
                case Keeper.ECHO: return "echo";
                case Keeper.ELDER: return "elder";
                default: return "keeper";
            }
        }
    }
}
