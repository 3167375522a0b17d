import java.util.ArrayList;
import java.util.Arrays;
import java.util.List;
import java.util.function.ToIntFunction;

/**
 * The document once more, told apart from the class: kinds as a tree of classes, days and choices
 * by trying everything on whole copies, texts cut into tokens first. ModelTest sets both side by side.
 */
public final class Model {
    static final int BEYOND = -1000001;
    static final int FULL = BEYOND - 1;
    static final int KIND = BEYOND - 2;
    static final int NONE = BEYOND - 3;
    static final int STATE = BEYOND - 4;
    static final int MISSING = BEYOND - 5;
    static final int SIZE = BEYOND - 6;

    static class Keeper implements Cloneable {
        int cell, note, loud = 6, tired, silent;
        int kind() { return 0; }
        int gives(int day) { return note; }
        int reaches(int f) { return Math.max(0, loud - f / 2); }
        int tempo() { return 3; }
        int tires() { return 2; }
        int turns(int day) { return 1; }
        Keeper twin() {
            try {
                return (Keeper) clone();
            } catch (CloneNotSupportedException e) {
                throw new IllegalStateException(e);
            }
        }
        Keeper as(int kind) {
            Keeper k = ofKind(kind);
            k.cell = cell; k.note = note; k.loud = loud; k.tired = tired; k.silent = silent;
            return k;
        }
    }
    static class Head extends Keeper {
        int kind() { return 1; }
        int reaches(int f) { return super.reaches(f) + 2; }
        int tempo() { return super.tempo() + 2; }
        int tires() { return super.tires() - 1; }
    }
    static class Elder extends Head {
        int kind() { return 6; }
        int gives(int day) { return (super.gives(day) + 11) % 12; }
        int tempo() { return super.tempo() + 1; }
        int tires() { return 3 * super.tires(); }
        int turns(int day) { return super.turns(day) + 1; }
    }
    static class Drunk extends Keeper {
        int kind() { return 2; }
        int gives(int day) { return (note + tired) % 12; }
        int reaches(int f) { return Math.max(0, super.reaches(f) - tired / 10); }
        int tempo() { return super.tempo() - 1; }
        int tires() { return super.tires() + 3; }
        int turns(int day) { return day % 2 == 0 ? 1 : 0; }
    }
    static class Poet extends Drunk {
        int kind() { return 3; }
        int gives(int day) { return (super.gives(day) + day) % 12; }
        int tempo() { return 2 * super.tempo(); }
        int turns(int day) { return super.turns(day) + 5; }
    }
    static class Hum extends Poet {
        int kind() { return 4; }
        int gives(int day) { return 0; }
        int reaches(int f) { return 15; }
        int tempo() { return 0; }
        int tires() { return 0; }
        int turns(int day) { return 0; }
    }
    static class Echo extends Keeper {
        int kind() { return 5; }
        int gives(int day) { return 11 - note; }
        int reaches(int f) { return super.reaches(f) / 2; }
        int tempo() { return super.tempo() + 4; }
        int tires() { return 0; }
        int turns(int day) { return 11; }
    }
    static final List<Class<? extends Keeper>> KINDS = List.of(
        Keeper.class, Head.class, Drunk.class, Poet.class, Hum.class, Echo.class, Elder.class);
    static final List<String> WORDS = List.of("keeper", "head", "drunk", "poet", "hum", "echo", "elder");

    static Keeper ofKind(int kind) {
        switch (kind) {
            case 0: return new Keeper();
            case 1: return new Head();
            case 2: return new Drunk();
            case 3: return new Poet();
            case 4: return new Hum();
            case 5: return new Echo();
            default: return new Elder();
        }
    }

    static class Child {
        int cell, quick = 3;
        boolean[] learnt = new boolean[12], missed = new boolean[12];
        Child twin() {
            Child c = new Child();
            c.cell = cell; c.quick = quick; c.learnt = learnt.clone(); c.missed = missed.clone();
            return c;
        }
        int howMany() { return Integer.bitCount(set(learnt)); }
    }
    static int set(boolean[] in) {
        int bits = 0;
        for (int i = 0; i < in.length; i++) bits += in[i] ? 1 << i : 0;
        return bits;
    }
    static boolean[] unset(int bits) {
        boolean[] in = new boolean[12];
        for (int i = 0; i < 12; i++) in[i] = (bits >> i) % 2 == 1;
        return in;
    }

    static class World {
        int day, z = 1;
        int[] list = new int[6];
        int[] spots = {-1, -1, -1, -1, -1, -1, -1, -1, -1, -1};
        List<Keeper> keepers = new ArrayList<>();
        List<Child> children = new ArrayList<>();

        World twin() {
            World w = new World();
            w.day = day; w.z = z; w.list = list.clone(); w.spots = spots.clone();
            for (Keeper k : keepers) w.keepers.add(k.twin());
            for (Child c : children) w.children.add(c.twin());
            return w;
        }
        World behind(int n) {
            World w = twin();
            for (int i = 0; i < n; i++) w.aDay();
            return w;
        }
        void aDay() {
            int f = list[day % 6];
            if (f > 0) {
                for (Keeper k : keepers) {
                    if (k.silent == 0) sounds(k, f);
                }
            } else {
                for (Keeper k : keepers) k.tired = Math.max(0, k.tired - 3);
            }
            if (day < 99999) day++;
        }
        void sounds(Keeper k, int f) {
            int p = k.gives(day);
            for (Child c : children) {
                if (Math.abs(c.cell - k.cell) > k.reaches(f) || c.learnt[p]) continue;
                if (c.quick >= k.tempo() && (p == 0 || c.learnt[p - 1])) {
                    c.learnt[p] = true;
                    c.missed[p] = false;
                } else {
                    c.missed[p] = true;
                }
            }
            int tired = Math.min(99, k.tired + k.tires());
            k.note = (k.note + k.turns(day)) % 12;
            k.tired = tired;
        }
        int total() { return children.stream().mapToInt(Child::howMany).sum(); }
        int tired() { return keepers.stream().mapToInt(k -> k.tired).sum(); }
        int draw() {
            z = z * 1103515245 + 12345;
            return z >>> 8;
        }
        boolean heard(Keeper k, Child c, int f) {
            return k.silent == 0 && Math.abs(k.cell - c.cell) <= k.reaches(f);
        }
    }

    World w = new World();
    World kept;
    List<Byte> tape = new ArrayList<>();
    int[][] sheets = new int[4][];
    int[] bits = new int[4];
    int[] told = new int[7];

    int find(int finding) {
        told[BEYOND - finding]++;
        return finding;
    }
    static boolean in(int v, int low, int top) { return low <= v && v <= top; }
    boolean isKeeper(int k) { return in(k, 0, w.keepers.size() - 1); }
    boolean isChild(int c) { return in(c, 0, w.children.size() - 1); }

    public int fog(int i, int v) {
        if (!in(i, 0, 5) || !in(v, 0, 9)) return find(BEYOND);
        int was = w.list[i];
        w.list[i] = v;
        return was;
    }
    public int listed(int i) { return in(i, 0, 5) ? w.list[i] : find(BEYOND); }
    public int keeper(int kind, int cell) {
        if (!in(kind, 0, 6) || !in(cell, 0, 15)) return find(BEYOND);
        if (w.keepers.size() == 8) return find(FULL);
        Keeper k = ofKind(kind);
        k.cell = cell;
        w.keepers.add(k);
        return w.keepers.size() - 1;
    }
    public int child(int cell, int quick) {
        if (!in(cell, 0, 15) || !in(quick, 0, 9)) return find(BEYOND);
        if (w.children.size() == 6) return find(FULL);
        Child c = new Child();
        c.cell = cell;
        c.quick = quick;
        w.children.add(c);
        return w.children.size() - 1;
    }
    static int told(World w, int keeper, int what) {
        Keeper k = w.keepers.get(keeper);
        int[] all = {k.kind(), k.cell, k.note, k.loud, k.tired, k.silent, k.gives(w.day),
            k.reaches(w.list[w.day % 6]), k.tempo(), k.tires(), k.turns(w.day)};
        return all[what];
    }
    public int of(int keeper, int what) {
        return isKeeper(keeper) && in(what, 0, 10) ? told(w, keeper, what) : find(BEYOND);
    }
    public int change(int keeper, int what, int v) {
        int[] tops = {6, 15, 11, 15, 99, 1};
        if (!isKeeper(keeper) || !in(what, 0, 5) || !in(v, 0, tops[what])) return find(BEYOND);
        int was = told(w, keeper, what);
        Keeper k = w.keepers.get(keeper);
        if (what == 0) w.keepers.set(keeper, k.as(v));
        if (what == 1) k.cell = v;
        if (what == 2) k.note = v;
        if (what == 3) k.loud = v;
        if (what == 4) k.tired = v;
        if (what == 5) k.silent = v;
        return was;
    }
    public int ofChild(int child, int what) {
        if (!isChild(child) || !in(what, 0, 3)) return find(BEYOND);
        Child c = w.children.get(child);
        return new int[] {c.cell, c.quick, set(c.learnt), set(c.missed)}[what];
    }
    public int teach(int child, int what, int v) {
        if (!isChild(child) || !in(what, 0, 3)) return find(BEYOND);
        if (!in(v, 0, new int[] {15, 9, 4095, 4095}[what])) return find(BEYOND);
        int was = ofChild(child, what);
        Child c = w.children.get(child);
        if (what == 0) c.cell = v;
        if (what == 1) c.quick = v;
        if (what == 2) c.learnt = unset(v);
        if (what == 3) c.missed = unset(v);
        return was;
    }
    public int hears(int child, int fog) {
        if (!isChild(child) || !in(fog, 1, 9)) return find(BEYOND);
        int heard = 0;
        for (int k = 0; k < w.keepers.size(); k++) {
            if (w.heard(w.keepers.get(k), w.children.get(child), fog)) heard += 1 << k;
        }
        return heard;
    }
    public int go(int n) {
        if (!in(n, 1, 60)) return find(BEYOND);
        if (w.day + n > 99999) return find(STATE);
        w = w.behind(n);
        return w.total();
    }
    public int now(int what) {
        if (!in(what, 0, 7)) return find(BEYOND);
        int[] sets = new int[8];
        for (int c = 0; c < w.children.size(); c++) {
            sets[2] |= set(w.children.get(c).learnt);
            sets[3] |= set(w.children.get(c).missed);
            if (w.children.get(c).howMany() == 12) sets[6] += 1 << c;
        }
        for (Keeper k : w.keepers) {
            if (k.silent == 0) sets[4] |= 1 << k.gives(w.day);
        }
        sets[0] = w.day;
        sets[1] = w.total();
        sets[5] = w.tired();
        sets[7] = w.list[w.day % 6];
        return sets[what];
    }
    public int ahead(int keeper, int what, int n) {
        if (!isKeeper(keeper) || !(what == 2 || what == 4 || what == 6) || !in(n, 0, 100)) return find(BEYOND);
        return told(w.behind(n), keeper, what);
    }
    public int later(int child, int what, int n) {
        if (!isChild(child) || !in(what, 2, 3) || !in(n, 0, 100)) return find(BEYOND);
        Child c = w.behind(n).children.get(child);
        return set(what == 2 ? c.learnt : c.missed);
    }
    interface Hope { boolean of(World w); }
    int fewest(Hope hope) {
        World then = w.twin();
        for (int n = 0; n <= 200; n++, then.aDay()) {
            if (hope.of(then)) return n;
        }
        return find(NONE);
    }
    public int learns(int child, int note) {
        if (!isChild(child) || !in(note, 0, 11)) return find(BEYOND);
        return fewest(then -> then.children.get(child).learnt[note]);
    }
    public int taught(int note) {
        if (!in(note, 0, 11)) return find(BEYOND);
        return fewest(then -> then.children.stream().allMatch(c -> c.learnt[note]));
    }
    public int weary(int keeper, int v) {
        if (!isKeeper(keeper) || !in(v, 0, 99)) return find(BEYOND);
        return fewest(then -> then.keepers.get(keeper).tired >= v);
    }
    interface Way { void take(World w, int v); }
    int best(int top, int n, Way way, ToIntFunction<World> worth) {
        int best = 0;
        for (int v = 0, most = -1; v <= top; v++) {
            World then = w.twin();
            way.take(then, v);
            int found = worth.applyAsInt(then.behind(n));
            if (found > most) {
                best = v;
                most = found;
            }
        }
        return best;
    }
    public int seatFor(int child, int n) {
        if (!isChild(child) || !in(n, 0, 60)) return find(BEYOND);
        return best(15, n, (then, v) -> then.children.get(child).cell = v, then -> then.children.get(child).howMany());
    }
    public int quickFor(int child, int note, int n) {
        if (!isChild(child) || !in(note, 0, 11) || !in(n, 0, 60)) return find(BEYOND);
        for (int q = 0; q <= 9; q++) {
            World then = w.twin();
            then.children.get(child).quick = q;
            if (then.behind(n).children.get(child).learnt[note]) return q;
        }
        return find(NONE);
    }
    public int kindFor(int keeper, int n) {
        if (!isKeeper(keeper) || !in(n, 0, 60)) return find(BEYOND);
        return best(6, n, (then, v) -> then.keepers.set(keeper, then.keepers.get(keeper).as(v)), World::total);
    }
    public int fogFor(int i, int v, int n) {
        if (!in(i, 0, 5) || !in(v, 0, 72) || !in(n, 0, 60)) return find(BEYOND);
        int thickest = -1;
        for (int f = 0; f <= 9; f++) {
            World then = w.twin();
            then.list[i] = f;
            if (then.behind(n).total() >= v) thickest = f;
        }
        return thickest < 0 ? find(NONE) : thickest;
    }
    public int hush(int n) {
        if (!in(n, 0, 20)) return find(BEYOND);
        int best = -1;
        for (int some = 0; some < 1 << w.keepers.size(); some++) {
            if (best >= 0 && Integer.bitCount(some) >= Integer.bitCount(best)) continue;
            World then = w.twin();
            for (int k = 0; k < then.keepers.size(); k++) {
                if ((some >> k) % 2 == 1) then.keepers.get(k).silent = 1;
            }
            if (then.behind(n).total() <= w.total()) best = some;
        }
        return best < 0 ? find(NONE) : best;
    }
    public int fits(int s, int child) {
        if (!in(s, 0, 3)) return find(BEYOND);
        if (sheets[s] == null) return find(MISSING);
        if (!isChild(child)) return find(BEYOND);
        int many = 0;
        for (int q = 0; q <= 9; q++) {
            World then = w.twin();
            then.children.get(child).quick = q;
            boolean all = true;
            for (int number : sheets[s]) {
                all &= number == -1 || number == set(then.children.get(child).learnt);
                then.aDay();
            }
            many += all ? 1 : 0;
        }
        return many;
    }
    public int kinds(int s, int keeper) {
        if (!in(s, 0, 3)) return find(BEYOND);
        if (sheets[s] == null) return find(MISSING);
        if (!isKeeper(keeper)) return find(BEYOND);
        int which = 0;
        for (int kind = 0; kind <= 6; kind++) {
            World then = w.twin();
            then.keepers.set(keeper, then.keepers.get(keeper).as(kind));
            boolean all = true;
            for (int number : sheets[s]) {
                all &= number == -1 || number == then.keepers.get(keeper).note;
                then.aDay();
            }
            which += all ? 1 << kind : 0;
        }
        return which;
    }
    public int autumn(int n) {
        if (!in(n, 1, 20)) return find(BEYOND);
        if (w.day + n > 99999) return find(STATE);
        for (int i = 0; i < n; i++) {
            w.list[w.day % 6] = w.draw() % 10;
            int who = w.draw() % 8;
            if (isChild(who)) w.children.get(who).cell = (w.children.get(who).cell + 1) % 16;
            w.aDay();
        }
        return w.total();
    }
    public long odds(int child, int keeper, int n, int what) {
        if (!isChild(child) || !isKeeper(keeper) || !in(n, 0, 17) || !in(what, 0, 1)) return find(BEYOND);
        java.math.BigInteger above = java.math.BigInteger.ONE;
        java.math.BigInteger below = java.math.BigInteger.ONE;
        for (int i = 0; i < n; i++) {
            int good = 0;
            for (int f = 1; f <= 9; f++) {
                good += w.heard(w.keepers.get(keeper), w.children.get(child), f) ? 1 : 0;
            }
            above = above.multiply(java.math.BigInteger.valueOf(good));
            below = below.multiply(java.math.BigInteger.TEN);
        }
        return (what == 0 ? above : below).divide(above.gcd(below)).longValueExact();
    }
    public int seed(int v) {
        int was = w.z;
        w.z = v;
        return was;
    }
    public int feed(int bytes, int n) {
        if (!in(n, 1, 4)) return find(BEYOND);
        if (tape.size() + n > 120) return find(FULL);
        byte[] all = {(byte) (bytes >>> 24), (byte) (bytes >>> 16), (byte) (bytes >>> 8), (byte) bytes};
        for (int i = 4 - n; i < 4; i++) tape.add(all[i]);
        return tape.size();
    }
    public int wipe() {
        int had = tape.size();
        tape.clear();
        return had;
    }

    static class Fault extends Exception {
        private static final long serialVersionUID = 1L;
        final int place;
        Fault(int place) { this.place = place; }
    }
    /** Words and numbers as they stand, other bytes alone, and an empty one at the end. */
    static class Tokens {
        List<String> texts = new ArrayList<>();
        List<Integer> places = new ArrayList<>();
        int next;
        Tokens(String all) {
            java.util.regex.Matcher m = java.util.regex.Pattern.compile("[a-z]+|[0-9]+|[^ ]").matcher(all);
            while (m.find()) {
                texts.add(m.group());
                places.add(m.start());
            }
            texts.add("");
            places.add(all.length());
        }
        boolean take(String text) {
            if (!texts.get(next).equals(text)) return false;
            next++;
            return true;
        }
        int number(int top) throws Fault {
            String text = texts.get(next);
            if (!text.matches("[0-9]+") || new java.math.BigInteger(text).compareTo(java.math.BigInteger.valueOf(top)) > 0) {
                throw fault();
            }
            next++;
            return Integer.parseInt(text.replaceFirst("^0+(?=.)", ""));
        }
        Fault fault() { return new Fault(places.get(next)); }
    }
    static void item(World then, Tokens in) throws Fault {
        int kind = WORDS.indexOf(in.texts.get(in.next));
        if (kind >= 0) {
            if (then.keepers.size() == 8) throw in.fault();
            in.next++;
            Keeper k = ofKind(kind);
            if (in.take("at")) k.cell = in.number(15);
            if (in.take("note")) k.note = in.number(11);
            if (in.take("loud")) k.loud = in.number(15);
            if (in.take("silent")) k.silent = 1;
            then.keepers.add(k);
        } else if (in.texts.get(in.next).equals("child")) {
            if (then.children.size() == 6) throw in.fault();
            in.next++;
            Child c = new Child();
            if (in.take("at")) c.cell = in.number(15);
            if (in.take("quick")) c.quick = in.number(9);
            if (in.take("knows")) c.learnt = unset(in.number(4095));
            then.children.add(c);
        } else if (in.take("fog")) {
            int place = in.number(5);
            then.list[place] = in.number(9);
        } else {
            throw in.fault();
        }
    }
    public int text() {
        StringBuilder all = new StringBuilder();
        for (byte b : tape) all.append((char) (b & 255));
        tape.clear();
        World then = w.twin();
        Tokens in = new Tokens(all.toString());
        try {
            int items = 0;
            do {
                item(then, in);
                items++;
            } while (in.take(";"));
            if (!in.take("")) throw in.fault();
            w = then;
            return items;
        } catch (Fault f) {
            return -1 - f.place;
        }
    }
    public int hold(int spot, int keeper) {
        if (!in(spot, 0, 9) || keeper != -1 && !isKeeper(keeper)) return find(BEYOND);
        w.spots[spot] = keeper;
        return 1;
    }
    public int as(int spot, int kind) {
        if (!in(spot, 0, 9) || !in(kind, 0, 6)) return find(BEYOND);
        if (w.spots[spot] == -1) return find(MISSING);
        return KINDS.get(kind).isInstance(w.keepers.get(w.spots[spot])) ? w.spots[spot] : find(KIND);
    }
    public int sheet(int s, int b, int n) {
        if (!in(s, 0, 3) || b != 0 && b != 8 && b != 16 && b != 32) return find(BEYOND);
        if (n < 0) return find(SIZE);
        if (n > 40) return find(BEYOND);
        sheets[s] = b == 0 ? null : new int[n];
        bits[s] = b;
        return b == 0 ? 0 : n;
    }
    public int write(int s, int i, int v) {
        if (!in(s, 0, 3)) return find(BEYOND);
        if (sheets[s] == null) return find(MISSING);
        if (!in(i, 0, sheets[s].length - 1)) return find(BEYOND);
        sheets[s][i] = v << 32 - bits[s] >> 32 - bits[s];
        return 1;
    }
    public int copy(int s, int from, int t, int to, int n) {
        if (!in(s, 0, 3) || !in(t, 0, 3)) return find(BEYOND);
        if (sheets[s] == null || sheets[t] == null) return find(MISSING);
        if (bits[s] != bits[t]) return find(KIND);
        if (from < 0 || to < 0 || n < 0) return find(BEYOND);
        if ((long) from + n > sheets[s].length || (long) to + n > sheets[t].length) return find(BEYOND);
        int[] were = Arrays.copyOfRange(sheets[s], from, from + n);
        for (int i = 0; i < n; i++) sheets[t][to + i] = were[i];
        return n;
    }
    public int load(int s) {
        if (!in(s, 0, 3)) return find(BEYOND);
        if (sheets[s] == null) return find(MISSING);
        int came = 0;
        for (int number : sheets[s]) {
            if (came == 6 || !in(number, 0, 9)) break;
            w.list[came++] = number;
        }
        return came;
    }
    public int judge(int s) {
        if (!in(s, 0, 3)) return find(BEYOND);
        if (sheets[s] == null) return find(MISSING);
        for (int i = 0; i < sheets[s].length; i++) {
            if (i >= w.children.size() || set(w.children.get(i).learnt) != sheets[s][i]) return i + 1;
        }
        return 0;
    }
    public int image() {
        kept = w.twin();
        return 1;
    }
    public int undo() {
        if (kept == null) return find(NONE);
        w = kept.twin();
        return w.day;
    }
    public int tear() {
        int was = kept == null ? 0 : 1;
        kept = null;
        return was;
    }
    public int count(int what) {
        if (!in(what, 0, 7)) return find(BEYOND);
        int held = (int) Arrays.stream(w.spots).filter(k -> k >= 0).count();
        return new int[] {w.day, w.keepers.size(), w.children.size(), w.total(), w.tired(), tape.size(), w.z, held}[what];
    }
    public int status(int which) {
        if (!in(which, -1, 6)) return find(BEYOND);
        return which == -1 ? Arrays.stream(told).sum() : told[which];
    }
}
