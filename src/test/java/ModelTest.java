import java.lang.reflect.Method;
import java.util.Arrays;
import java.util.HashMap;
import java.util.Map;
import java.util.Random;

/** All promises: long runs of calls, ordinary ones and wild ones, against the plain model. */
final class ModelTest {
    private static final int RUNS = 3000;
    /** What an object answers beyond these is free. */
    private static final int CALLS = 512;
    /** No step of a run takes as many calls: a TEXT and its SLICE, a ROW of ten, one call, what is told then. */
    private static final int STEP = 110;
    private static final int[] WILD = {Integer.MIN_VALUE, Integer.MIN_VALUE + 1, -1000, -2, -1, 0, 1, 2, 3, 4, 5, 6, 7,
        8, 10, 11, 12, 13, 14, 15, 16, 17, 20, 21, 24, 25, 39, 40, 41, 59, 60, 61, 255, 256, 1 << 16, 1 << 30,
        Integer.MAX_VALUE - 1, Integer.MAX_VALUE};
    private static final String[] DEEDS = {"morning", "shift", "turn", "lift", "lick", "lots"};
    private static final String SIGNS = "nptlchi 012345x" + (char) 255;

    private static final Map<String, Method> ASKED = new HashMap<>();
    private static final Map<String, Method> WANTED = new HashMap<>();
    /** How often each call was not refused: a call that is always refused is hardly tested. */
    private static final Map<String, Integer> ANSWERED = new HashMap<>();
    /** How often each DEED came as one too many. */
    private static final Map<String, Integer> FULL = new HashMap<>();

    private final Random random;
    private final int run;
    private final PeelReadings x = new PeelReadings();
    private final PlainModel model = new PlainModel();
    private int calls = 0;

    private ModelTest(int run) {
        this.run = run;
        random = new Random(run);
    }

    public static void main(String[] args) throws ReflectiveOperationException {
        for (Method method : PeelReadings.class.getDeclaredMethods()) {
            if (java.lang.reflect.Modifier.isPublic(method.getModifiers())) {
                ASKED.put(method.getName(), method);
                WANTED.put(method.getName(), PlainModel.class.getDeclaredMethod(method.getName(), method.getParameterTypes()));
                ANSWERED.put(method.getName(), 0);
            }
        }
        Check.due("methods of the face", ASKED.size(), 45);
        for (int run = 0; run < RUNS; run++) {
            new ModelTest(run).play();
        }
        for (Map.Entry<String, Integer> entry : ANSWERED.entrySet()) {
            Check.due(entry.getKey() + " was often not refused", entry.getValue() > 500 ? 1 : 0, 1);
        }
        for (String name : DEEDS) {
            Check.due(name + " was often FULL", FULL.getOrDefault(name, 0) > 100 ? 1 : 0, 1);
        }
        Check.end();
    }

    private void play() throws ReflectiveOperationException {
        String[] names = ASKED.keySet().toArray(new String[0]);
        Arrays.sort(names);
        // in half of the runs little is told besides, so that they come to more
        int seldom = run % 2 == 0 ? 1 : 12;
        for (int step = 0; calls < CALLS - STEP; step++) {
            // some runs keep to one slice, so that they come to forty deeds
            if (step == 5 || step % 40 == 5 && run % 3 == 1) {
                slice();
            }
            if (step == 3 && run % 4 == 3) {
                rows();
            }
            String[] among = run % 4 == 1 && random.nextInt(2) == 0 ? DEEDS : names;
            String name = among[random.nextInt(among.length)];
            int[] arguments = arguments(name);
            if (random.nextInt(3) > 0 && (name.equals("places") || name.equals("kinds") || name.equals("next"))) {
                laySeen(arguments[1]);
            }
            call(name, arguments);
            if (step % seldom == 0) {
                told();
            }
        }
        told();
        Check.due("run " + run + " keeps to 512 calls", calls <= CALLS ? 1 : 0, 1);
    }

    private long call(String name, int... arguments) throws ReflectiveOperationException {
        Object[] boxed = Arrays.stream(arguments).boxed().toArray();
        long got = ((Number) ASKED.get(name).invoke(x, boxed)).longValue();
        long want = ((Number) WANTED.get(name).invoke(model, boxed)).longValue();
        Check.due("run " + run + ", call " + calls + ": " + name + Arrays.toString(arguments), got, want);
        if (want >= 0 || want == PeelReadings.NONE || arguments.length == 0) {
            ANSWERED.merge(name, 1, Integer::sum);
        }
        if (want == PeelReadings.FULL) {
            FULL.merge(name, 1, Integer::sum);
        }
        calls++;
        return want;
    }

    private void told() throws ReflectiveOperationException {
        call("asked");
        call("upper");
        call("lower");
        call("finding");
        for (int f = 1; f <= 5; f++) {
            call("findings", f);
        }
        call("digest");
    }

    private void rows() throws ReflectiveOperationException {
        for (int r = 0; r < 6; r++) {
            call("row", r, 2 + random.nextInt(5));
            call("lay", r, 1, random.nextInt());
        }
    }

    /** A text, most often without a fault, and a slice by it. */
    private void slice() throws ReflectiveOperationException {
        StringBuilder signs = new StringBuilder();
        addBlanks(signs);
        signs.append('n').append(1 + random.nextInt(4));
        int peels = 1 + random.nextInt(random.nextInt(8) == 0 ? 7 : 6);
        for (int i = 0; i < peels; i++) {
            addBlanks(signs);
            int place = random.nextInt(random.nextInt(50) == 0 ? 20 : 16);
            signs.append("ptlchi".charAt(random.nextInt(6))).append(place / 10).append(place % 10);
            signs.append(1 + random.nextInt(4)).append(random.nextInt(2));
        }
        addBlanks(signs);
        if (random.nextInt(5) == 0) {
            signs.setCharAt(random.nextInt(signs.length()), anySign());
        }
        if (random.nextInt(8) == 0) {
            signs.setLength(random.nextInt(signs.length()));
        }
        int t = random.nextInt(4);
        call("text", t, signs.length());
        for (int k = 0; k < signs.length(); k++) {
            call("put", t, k, signs.charAt(k));
        }
        call("fault", t);
        call("slice", t);
    }

    private void addBlanks(StringBuilder signs) {
        for (int k = random.nextInt(4) - 1; k > 0; k--) {
            signs.append(' ');
        }
    }

    private char anySign() {
        return SIGNS.charAt(random.nextInt(SIGNS.length()));
    }

    /** Into a row what will be read, now and then with another number among it. */
    private void laySeen(int r) throws ReflectiveOperationException {
        int size = 1 + random.nextInt(random.nextInt(4) == 0 ? 10 : 3);
        call("row", r, size);
        for (int k = 0; k < size; k++) {
            int lines = (int) call("reads", k + 1);
            call("lay", r, k, random.nextInt(12) == 0 ? any(256) : Math.max(0, lines));
        }
    }

    private int any(int end) {
        return random.nextInt(12) == 0 ? WILD[random.nextInt(WILD.length)] : random.nextInt(Math.max(1, end));
    }

    private int anyLines() {
        switch (random.nextInt(4)) {
            case 0: return model.count(7);
            case 1: return model.count(7) | 1 << random.nextInt(8);
            case 2: return 1 << random.nextInt(8);
            default: return any(256);
        }
    }

    private int[] arguments(String name) {
        int i = any(model.count(0));
        switch (name) {
            case "row": return of(any(6), any(random.nextInt(3) == 0 ? 41 : 4));
            case "lay": return of(any(6), any(5), random.nextInt(2) == 0 ? any(300) : random.nextInt());
            case "at": return of(any(6), any(5));
            case "copy": return of(any(6), any(4), any(6), any(4), any(4));
            case "text": return of(any(4), any(61));
            case "put": return of(any(4), any(30), random.nextInt(2) == 0 ? anySign() : random.nextInt());
            case "peel": return of(i, any(7));
            case "mark": return of(i, any(6));
            case "shift": return of(i, any(16));
            case "covers": return of(i, any(16), any(2));
            case "found": return of(anyLines(), any(6));
            case "gap": return of(anyLines());
            case "sure": return of(anyLines());
            case "places": return of(i, any(6));
            case "kinds": return of(i, any(6));
            case "next": return of(i, any(6));
            case "odds": return of(any(8), any(13));
            case "lots": return of(any(9), random.nextInt(9) == 0 ? any(9) : 1 + random.nextInt(Integer.MAX_VALUE - 1));
            default: return ASKED.get(name).getParameterCount() == 0 ? of() : of(any(ends(name)));
        }
    }

    private int ends(String name) {
        switch (name) {
            case "turn": return model.count(0);
            case "lift": return model.count(0);
            case "best": return model.count(0);
            case "undo": return model.count(3) + 2;
            case "lick": return 16;
            case "fault": return 4;
            case "slice": return random.nextInt(4) == 0 ? 4 : 0;
            case "keep": return 3;
            case "on": return 3;
            case "duel": return 3;
            case "weighs": return 8;
            case "first": return 8;
            case "reads": return 41;
            case "sets": return 25;
            case "surely": return 25;
            case "mid": return 13;
            case "count": return 14;
            default: return 6;
        }
    }

    private static int[] of(int... arguments) {
        return arguments;
    }
}
