import java.lang.reflect.InvocationTargetException;
import java.lang.reflect.Method;
import java.nio.charset.StandardCharsets;
import java.util.ArrayList;
import java.util.Arrays;
import java.util.LinkedHashMap;
import java.util.List;
import java.util.Map;
import java.util.Random;

/** Runs of calls drawn from fixed seeds, each answered by the program and by the Model: all answers must be alike. */
public final class ModelTest {
    /** Each call with what its arguments are, and how often it is drawn. */
    private static final String[] CALLS = {
        "oak m 4", "year yk 8", "person g 4", "end n 1", "text - 1", "fault w 1", "by t 5", "lend oyp 70",
        "returned oy 12", "pass oyp 25", "day d 8", "played t 5", "winters sW 6", "undo - 12", "of pw 8", "ofOak ow 6",
        "ring oy 4", "lends oyp 6", "pays oyp 6", "kindOf y 2", "is w 5", "book iw 5", "foretold dwo 6", "same pp 4",
        "kin p 4", "twins - 2", "earliest p 2", "newest p 2", "wants pg 8", "takes pK 6", "able - 5", "needs - 3",
        "block - 6", "plan p 6", "vote g 4", "mark k 5", "dated u 4", "nearest - 4", "run ob 5", "alike oo 4",
        "stands onb 5", "expects b 4", "owed p 4", "price kg 4", "cheapest pcb 5", "said pA 5", "whose - 6",
        "eldest - 3", "left y 3", "count k 3", "fenced - 3", "bare - 3", "fires - 3", "ledger p 4", "image - 1",
        "back - 1", "about w 5"};

    private final Random random;
    private final TreesLendRings real = new TreesLendRings();
    private final Model model = new Model();
    private final List<String> calls = new ArrayList<>();
    private int wrong = 0;

    private ModelTest(long seed) {
        random = new Random(seed);
    }

    public static void main(String[] args) throws Exception {
        int runs = args.length > 0 ? Integer.parseInt(args[0]) : 400;
        long from = args.length > 1 ? Long.parseLong(args[1]) : 1;
        Map<String, Method[]> face = face();
        int wrong = 0;
        for (long seed = from; seed < from + runs && wrong < 5; seed++) {
            wrong += new ModelTest(seed).go(seed, face);
        }
        System.out.println(wrong == 0 ? runs + " runs are as the model's" : "some runs are not as the model's");
        if (wrong != 0) {
            System.exit(1);
        }
    }

    private static Map<String, Method[]> face() throws NoSuchMethodException {
        Map<String, Method[]> face = new LinkedHashMap<>();
        for (Method m : TreesLendRings.class.getDeclaredMethods()) {
            if (java.lang.reflect.Modifier.isPublic(m.getModifiers())) {
                face.put(m.getName(), new Method[] {m, Model.class.getDeclaredMethod(m.getName(), m.getParameterTypes())});
            }
        }
        return face;
    }

    private int go(long seed, Map<String, Method[]> face) throws Exception {
        int sum = 0;
        for (String call : CALLS) {
            sum += Integer.parseInt(call.split(" ")[2]);
        }
        boolean late = random.nextInt(20) == 0;
        // Where few days pass, many rings are lent at once.
        boolean still = !late && random.nextBoolean();
        begin(face);
        for (int n = 0; n < 470 && wrong == 0; n++) {
            if (random.nextInt(still ? 60 : 15) == 0) {
                tell(face, randomText());
                continue;
            }
            if (late) {
                call(face, "day", 60);
            }
            int at = random.nextInt(sum);
            for (String call : CALLS) {
                String[] parts = call.split(" ");
                at -= Integer.parseInt(parts[2]);
                if (at < 0) {
                    boolean passes = List.of("day", "winters", "played", "back").contains(parts[0]);
                    if (!still || !passes || random.nextInt(10) == 0) {
                        call(face, parts[0], arguments(parts[1]));
                    }
                    break;
                }
            }
        }
        if (wrong != 0) {
            System.out.println("run of seed " + seed + ": " + calls.get(calls.size() - 1) + ", behind "
                + calls.subList(Math.max(0, calls.size() - 25), calls.size() - 1));
        }
        return wrong;
    }

    private void begin(Map<String, Method[]> face) throws Exception {
        if (random.nextInt(10) == 0) {
            return;
        }
        for (int i = random.nextInt(5); i >= 0; i--) {
            call(face, "oak", (int) argument('m'));
            call(face, "person", random.nextInt(25));
        }
        for (int i = random.nextInt(20); i >= 0; i--) {
            call(face, "year", random.nextInt(24), random.nextInt(4));
        }
    }

    private void tell(Map<String, Method[]> face, String text) throws Exception {
        byte[] bytes = text.getBytes(StandardCharsets.ISO_8859_1);
        call(face, "end", 0);
        for (int from = 0; from < bytes.length; from += 20) {
            int[] n = Due.numbers(bytes, from);
            call(face, "feed", n[0], n[1], n[2], n[3], n[4]);
        }
        if (random.nextInt(20) != 0) {
            call(face, "end", bytes.length);
        }
        call(face, "text");
        call(face, "fault", 0);
        call(face, "fault", 1);
        if (random.nextInt(3) == 0) {
            call(face, "by", random.nextInt(4));
        }
        if (random.nextInt(4) == 0) {
            call(face, "played", random.nextInt(4));
        }
    }

    private void call(Map<String, Method[]> face, String name, Object... arguments) throws Exception {
        Method[] both = face.get(name);
        Object want = both[1].invoke(model, arguments);
        Object got;
        try {
            got = both[0].invoke(real, arguments);
        } catch (InvocationTargetException e) {
            got = e.getCause();
        }
        calls.add(name + Arrays.toString(arguments) + " = " + got);
        if (!want.equals(got)) {
            calls.set(calls.size() - 1, calls.get(calls.size() - 1) + ", the model says " + want);
            wrong++;
        }
    }

    private Object[] arguments(String kinds) {
        if (kinds.equals("-")) {
            return new Object[0];
        }
        Object[] all = new Object[kinds.length()];
        for (int i = 0; i < all.length; i++) {
            all[i] = argument(kinds.charAt(i));
        }
        if (kinds.startsWith("oy") && random.nextInt(4) > 0) {
            aimAtRing(all, random.nextBoolean());
        }
        return all;
    }

    /** Makes oak and year those of a ring that is there (lent, if that is wanted and one is found). */
    private void aimAtRing(Object[] all, boolean lent) {
        for (int tries = 0; tries < 40; tries++) {
            int oak = random.nextInt(5);
            int y = random.nextInt(24);
            int where = model.ring(oak, y);
            if (where >= 0 && where < 5 || !lent && where != Model.NEVER) {
                all[0] = oak;
                all[1] = y;
                return;
            }
        }
    }

    private Object argument(char kind) {
        if (kind == 'b') {
            return random.nextBoolean();
        }
        if (random.nextInt(150) == 0) {
            return new int[] {Integer.MIN_VALUE, Integer.MAX_VALUE, random.nextInt(), -1, -2, 1 << 24}[random.nextInt(6)];
        }
        switch (kind) {
            case 'm':
                int mask = random.nextInt(1 << 24);
                return random.nextInt(3) > 0 ? mask | random.nextInt(1 << 24) : mask;
            case 'y': return random.nextInt(26) - 1;
            case 'k': return random.nextInt(6) - 1;
            case 'g': return random.nextInt(6) == 0 ? random.nextInt(103) - 1 : random.nextInt(40);
            case 'n': return random.nextInt(26);
            case 'w': return random.nextInt(9) - 1;
            case 't': return random.nextInt(6) - 1;
            case 'o': return random.nextInt(12) == 0 ? random.nextInt(7) - 1 : random.nextInt(Math.max(1, model.about(0)));
            case 'p': return random.nextInt(12) == 0 ? random.nextInt(7) - 1 : random.nextInt(Math.max(1, model.about(1)));
            case 'd': return random.nextInt(4) == 0 ? random.nextInt(63) - 1 : random.nextInt(8) + 1;
            case 's': return random.nextInt(20) == 0 ? random.nextInt(10010) - 4 : random.nextInt(10000);
            case 'W': return random.nextInt(43) - 1;
            case 'i': return random.nextInt(32) - 1;
            case 'K': return random.nextInt(18) - 1;
            case 'u': return random.nextInt(13) - 1;
            case 'c': return random.nextInt(11);
            case 'A':
                int p = random.nextInt(Math.max(1, model.about(1)));
                return random.nextInt(3) == 0 ? random.nextInt(11010) - 1005 : model.of(p, 1);
            default: throw new IllegalStateException("" + kind);
        }
    }

    // ---- texts

    private String randomText() {
        StringBuilder text = new StringBuilder();
        int clauses = random.nextInt(12) == 0 ? 24 + random.nextInt(3) : random.nextInt(9);
        String[] laws = {"lends", "ages", "pays"};
        int start = random.nextInt(3);
        for (int i = 0; i < clauses; i++) {
            if (clauses < 20 && i < 3 && random.nextInt(3) > 0) {
                String law = laws[(start + i) % 3];
                text.append(law).append(' ').append(sum(law, random.nextInt(4))).append(';');
            } else {
                text.append(deed(clauses > 20));
            }
        }
        for (int i = random.nextInt(6) - 3; i > 0; i--) {
            mutate(text);
        }
        if (random.nextInt(25) == 0) {
            int depth = 6 + random.nextInt(5);
            String[] opening = {"(", "- ", "root ", "rings ", "if not 1<", "if (", "if 1 < 2 then "};
            text.append("ages ");
            for (int i = 0; i < depth; i++) {
                text.append(opening[random.nextInt(opening.length)]);
            }
        }
        text.setLength(Math.min(300, text.length()));
        return text.toString();
    }

    private void mutate(StringBuilder text) {
        String[] more = {"lends ", "left", "(", ")", "9999", "10000", "24", ";", " not ", "-", ",", "<=", "= ", "A", "$",
            "\n", "\t", " end ", "rings ", " root ", "if ", "\u00e9", "and", "0", "1"};
        int at = random.nextInt(text.length() + 1);
        if (random.nextBoolean() && at < text.length()) {
            text.deleteCharAt(at);
        } else {
            text.insert(at, more[random.nextInt(more.length)]);
        }
    }

    private String deed(boolean small) {
        int y = random.nextInt(random.nextInt(20) == 0 ? 26 : 24);
        int o = random.nextInt(random.nextInt(20) == 0 ? 6 : 3);
        int p = random.nextInt(random.nextInt(20) == 0 ? 6 : 3);
        switch (small ? 4 : random.nextInt(8)) {
            case 0: {
                StringBuilder s = new StringBuilder("oak ").append(y);
                for (int i = random.nextInt(22); i > 0; i--) {
                    s.append(',').append(random.nextInt(6) > 0 ? (y + i) % 24 : random.nextInt(24));
                }
                return s.append(';').toString();
            }
            case 1: return "year " + y + " is " + random.nextInt(4) + " ;";
            case 2: return "person " + random.nextInt(random.nextInt(9) == 0 ? 102 : 30) + ";";
            case 3: case 7: return "lend " + y + " of " + o + " to " + p + ";";
            case 4: return "day " + (random.nextInt(20) == 0 ? random.nextInt(63) : 1 + random.nextInt(30)) + ";";
            case 5: return "back " + y + " of " + o + ";";
            default: return "pass " + y + " of " + o + "\nto " + p + ";";
        }
    }

    private String sum(String law, int depth) {
        StringBuilder s = new StringBuilder(product(law, depth));
        for (int i = random.nextInt(4) - 1; i > 0; i--) {
            s.append(random.nextBoolean() ? "+" : "-").append(product(law, depth));
        }
        return s.toString();
    }

    private String product(String law, int depth) {
        StringBuilder s = new StringBuilder(one(law, depth));
        for (int i = random.nextInt(4) - 1; i > 0; i--) {
            s.append(random.nextBoolean() ? "*" : "/").append(one(law, depth));
        }
        return s.toString();
    }

    private String one(String law, int depth) {
        String[] names = {"day", "year", "kind", "oak", "own", "held", "who", "left"};
        int what = depth <= 0 ? random.nextInt(2) : random.nextInt(8);
        switch (what) {
            case 0: return "" + (random.nextInt(6) == 0 ? random.nextInt(10000) : random.nextInt(12));
            case 1: case 7: {
                String name = names[random.nextInt(8)];
                return name.equals("left") && law.equals("ages") && random.nextInt(20) > 0 ? "held" : name;
            }
            case 2: return "(" + sum(law, depth - 1) + ")";
            case 3: return "-" + one(law, depth - 1);
            case 4: return "root " + one(law, depth - 1);
            case 5: return "rings " + (random.nextBoolean() ? random.nextInt(6) : one(law, depth - 1));
            default: return "if " + either(law, depth - 1) + " then " + sum(law, depth - 1) + " else "
                + sum(law, depth - 1) + " end";
        }
    }

    private String either(String law, int depth) {
        StringBuilder s = new StringBuilder(ask(law, depth));
        for (int i = random.nextInt(4) - 1; i > 0; i--) {
            s.append(random.nextBoolean() ? " or " : " and ").append(ask(law, depth));
        }
        return s.toString();
    }

    private String ask(String law, int depth) {
        if (random.nextInt(4) == 0) {
            return "not " + ask(law, depth);
        }
        String[] by = {"<", "<=", ">", ">=", "=", "#"};
        return sum(law, depth - 1) + by[random.nextInt(6)] + sum(law, depth - 1);
    }
}
