import java.lang.reflect.Method;
import java.util.ArrayList;
import java.util.Arrays;
import java.util.Comparator;
import java.util.List;
import java.util.Map;
import java.util.Random;
import java.util.TreeMap;

/** Runs of chosen calls, the same for each number of a run, on the class and on the model side by side. */
public final class ModelTest {
    private static final int RUNS = 1500;
    private static final int CALLS = 512;

    private static final Map<String, int[][]> RANGES = new TreeMap<>();
    private static void range(String name, int... lowsAndTops) {
        int[][] pairs = new int[lowsAndTops.length / 2][];
        for (int i = 0; i < pairs.length; i++) {
            pairs[i] = new int[] {lowsAndTops[2 * i], lowsAndTops[2 * i + 1]};
        }
        RANGES.put(name, pairs);
    }
    private static void tellRanges() {
        range("fog", 0, 5, 0, 9);
        range("listed", 0, 5);
        range("keeper", 0, 6, 0, 15);
        range("child", 0, 15, 0, 9);
        range("of", 0, 7, 0, 10);
        range("change", 0, 7, 0, 5, 0, 15);
        range("ofChild", 0, 5, 0, 3);
        range("teach", 0, 5, 0, 3, 0, 15);
        range("hears", 0, 5, 1, 9);
        range("go", 1, 60);
        range("now", 0, 7);
        range("ahead", 0, 7, 2, 6, 0, 100);
        range("later", 0, 5, 2, 3, 0, 100);
        range("learns", 0, 5, 0, 11);
        range("taught", 0, 11);
        range("weary", 0, 7, 0, 99);
        range("seatFor", 0, 5, 0, 60);
        range("quickFor", 0, 5, 0, 11, 0, 60);
        range("kindFor", 0, 7, 0, 60);
        range("fogFor", 0, 5, 0, 72, 0, 60);
        range("hush", 0, 20);
        range("fits", 0, 3, 0, 5);
        range("kinds", 0, 3, 0, 7);
        range("autumn", 1, 20);
        range("odds", 0, 5, 0, 7, 0, 17, 0, 1);
        range("seed", Integer.MIN_VALUE, Integer.MAX_VALUE);
        range("feed", Integer.MIN_VALUE, Integer.MAX_VALUE, 1, 4);
        range("wipe");
        range("text");
        range("hold", 0, 9, -1, 7);
        range("as", 0, 9, 0, 6);
        range("sheet", 0, 3, 0, 32, 0, 40);
        range("write", 0, 3, 0, 39, -1, 12);
        range("copy", 0, 3, 0, 39, 0, 3, 0, 39, 0, 20);
        range("load", 0, 3);
        range("judge", 0, 3);
        range("image");
        range("undo");
        range("tear");
        range("count", 0, 7);
        range("status", -1, 6);
    }

    private final Random random;
    private final int run;
    private final FogSchool school = new FogSchool();
    private final Model model = new Model();
    private final List<String> calls = new ArrayList<>();
    private boolean isWrong = false;

    private ModelTest(int run) {
        this.run = run;
        this.random = new Random(run);
    }

    private static final Map<String, Method> OF_SCHOOL = new TreeMap<>();
    private static final Map<String, Method> OF_MODEL = new TreeMap<>();
    private static final Map<String, Integer> ANSWERS = new TreeMap<>();
    private static void findMethods() throws Exception {
        for (Method m : FogSchool.class.getDeclaredMethods()) {
            if (java.lang.reflect.Modifier.isPublic(m.getModifiers())) {
                OF_SCHOOL.put(m.getName(), m);
                OF_MODEL.put(m.getName(), Model.class.getMethod(m.getName(), m.getParameterTypes()));
            }
        }
    }

    private long call(String name, int... args) throws Exception {
        Object[] boxed = Arrays.stream(args).boxed().toArray();
        calls.add(name + Arrays.toString(args));
        long want = ((Number) OF_MODEL.get(name).invoke(model, boxed)).longValue();
        long got;
        try {
            got = ((Number) OF_SCHOOL.get(name).invoke(school, boxed)).longValue();
        } catch (java.lang.reflect.InvocationTargetException e) {
            System.out.println("run " + run + ": " + calls + " threw " + e.getCause());
            isWrong = true;
            return want;
        }
        ANSWERS.merge(name + (want < -1000000 && want >= -1000007 ? " finding " + (-1000001 - want) : " answer"), 1, Integer::sum);
        if (got != want) {
            System.out.println("run " + run + ": " + calls + " answered " + got + ", due is " + want);
            isWrong = true;
        }
        return want;
    }

    private int argument(int[] pair) {
        int dice = random.nextInt(60);
        if (dice == 0) return pair[0] - 1;
        if (dice == 1) return pair[1] + 1;
        if (dice == 2) return random.nextBoolean() ? Integer.MIN_VALUE : Integer.MAX_VALUE;
        if (dice == 3) return random.nextInt();
        if (dice < 8) return random.nextBoolean() ? pair[0] : pair[1];
        return (int) (pair[0] + (long) (random.nextDouble() * ((long) pair[1] - pair[0] + 1)));
    }

    private void anyCall(String name) throws Exception {
        int[] args = Arrays.stream(RANGES.get(name)).mapToInt(this::argument).toArray();
        if (name.equals("sheet") && random.nextInt(8) > 0) args[1] = 8 << random.nextInt(3);
        if (name.equals("change") && args.length == 3 && args[1] == 4) args[2] = random.nextInt(101);
        if (name.equals("teach") && args[1] >= 2) args[2] = random.nextInt(4097);
        if (name.equals("keeper") && random.nextInt(4) > 0 && calls.size() > 100) return;
        if (name.equals("fogFor") && random.nextBoolean()) args[1] = (int) call("now", 1) + random.nextInt(8);
        call(name, args);
    }

    private String piece() {
        String[] some = {"keeper", "head", "drunk", "poet", "hum", "echo", "elder", "child", "fog", "at", "note", "loud",
            "silent", "quick", "knows", ";", ";", " ", " ", "0", "3", "5", "9", "11", "15", "16", "4095", "4096", "9999",
            "10000", "00007", "99999999999", "A", "\t", "-1", "\u00ff", "keepers", "x"};
        return some[random.nextInt(some.length)];
    }
    private String perhaps(String word, int top) {
        if (random.nextInt(3) == 0) return "";
        return " " + word + (random.nextBoolean() ? " " : "") + random.nextInt(random.nextInt(12) == 0 ? top + 2 : top + 1);
    }
    private String item() {
        int dice = random.nextInt(14);
        if (dice < 2) return "fog" + " " + random.nextInt(6) + " " + random.nextInt(10);
        if (dice < 5) return "child" + perhaps("at", 15) + perhaps("quick", 9) + perhaps("knows", 4095);
        return Model.WORDS.get(random.nextInt(7)) + perhaps("at", 15) + perhaps("note", 11) + perhaps("loud", 15)
            + (random.nextInt(6) == 0 ? " silent" : "");
    }
    private void someText() throws Exception {
        StringBuilder text = new StringBuilder();
        if (random.nextInt(4) == 0) {
            for (int i = random.nextInt(12); i > 0; i--) text.append(piece()).append(random.nextBoolean() ? " " : "");
        } else {
            text.append(item());
            for (int i = random.nextInt(4); i > 0; i--) text.append(random.nextBoolean() ? ";" : " ; ").append(item());
            if (random.nextInt(4) == 0) {
                int place = random.nextInt(text.length());
                text.replace(place, Math.min(text.length(), place + random.nextInt(4)), piece());
            }
        }
        for (int i = 0; i < text.length(); ) {
            int n = Math.min(text.length() - i, 1 + random.nextInt(4));
            int bytes = random.nextInt();
            for (int b = 0; b < n; b++) bytes = bytes << 8 | text.charAt(i + b);
            call("feed", bytes, n);
            i += n;
        }
        call("text");
    }

    private void toldSheet() throws Exception {
        int s = random.nextInt(4);
        int n = random.nextInt(15);
        boolean ofChild = random.nextBoolean();
        int whose = random.nextInt(4);
        call("sheet", s, ofChild ? 16 : 8, n);
        for (int i = 0; i < n; i++) {
            long told = ofChild ? call("later", whose, 2, i) : call("ahead", whose, 2, i);
            int dice = random.nextInt(40);
            call("write", s, i, dice < 6 ? -1 : dice == 6 ? random.nextInt(12) : (int) told);
        }
        call(ofChild ? "fits" : "kinds", s, whose);
    }

    private void copied() throws Exception {
        int bits = 8 << random.nextInt(3);
        for (int s = 0; s < 4; s++) {
            int n = random.nextInt(8);
            call("sheet", s, bits, n);
            for (int i = 0; i < n; i++) call("write", s, i, random.nextInt(random.nextInt(9) == 0 ? 2000 : 10));
        }
        for (int i = 0; i < 3; i++) {
            int to = random.nextInt(4);
            call("copy", random.nextInt(4), random.nextInt(4), to, random.nextInt(4), random.nextInt(5));
            call("load", to);
            for (int place = 0; place < 6; place++) call("listed", place);
        }
    }

    private void fullTape() throws Exception {
        for (int i = 0; i < 33; i++) call("feed", random.nextInt(), 1 + random.nextInt(4));
        for (int i = 0; i < 8; i++) call("feed", random.nextInt(), 4);
        call("count", 5);
    }

    private void judged() throws Exception {
        int s = random.nextInt(4);
        int n = random.nextInt(8);
        call("sheet", s, 16 << random.nextInt(2), n);
        for (int i = 0; i < n; i++) {
            call("write", s, i, (int) call("ofChild", i, 2));
        }
        call("judge", s);
    }

    private void start() throws Exception {
        int dice = random.nextInt(3);
        for (int i = 0; i < 6; i++) call("fog", i, dice == 0 ? 1 + random.nextInt(4) : random.nextInt(10));
        for (int i = random.nextInt(9); i > 0; i--) call("keeper", random.nextInt(7), random.nextInt(16));
        for (int i = random.nextInt(7); i > 0; i--) call("child", random.nextInt(16), random.nextInt(10));
        call("seed", random.nextInt());
    }

    private boolean runAll() throws Exception {
        if (random.nextInt(8) > 0) start();
        String[] names = RANGES.keySet().toArray(new String[0]);
        while (calls.size() < CALLS - 130 && !isWrong) {
            int dice = random.nextInt(200);
            if (dice == 0) copied();
            else if (dice == 1) fullTape();
            else if (dice < 5) someText();
            else if (dice < 8) toldSheet();
            else if (dice < 11) judged();
            else if (dice < 15) call("go", 1 + random.nextInt(3));
            else anyCall(names[random.nextInt(names.length)]);
        }
        for (int i = -1; i < 8 && !isWrong; i++) {
            call("status", i);
            call("count", i);
            call("now", i);
        }
        return isWrong;
    }

    public static void main(String[] args) throws Exception {
        tellRanges();
        findMethods();
        if (!RANGES.keySet().equals(OF_SCHOOL.keySet())) {
            System.out.println("not every method is called: " + OF_SCHOOL.keySet());
            System.exit(1);
        }
        int wrong = 0;
        for (int run = 0; run < RUNS && wrong < 3; run++) {
            if (new ModelTest(run).runAll()) wrong++;
        }
        if (args.length > 0) {
            ANSWERS.entrySet().stream().sorted(Comparator.comparing(Map.Entry::getKey)).forEach(System.out::println);
        }
        System.out.println("ModelTest: " + wrong + " runs are not as due");
        if (wrong > 0) System.exit(1);
    }
}
