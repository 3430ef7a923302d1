import java.lang.reflect.Method;
import java.util.Map;

/**
 * Each argument of each call: the last value that is taken and the first that isn't, on both sides, and any int at all;
 * a call that is refused, or that only asks, leaves all as it was.
 */
public final class ArgumentsTest {
    private static final int MIN = Integer.MIN_VALUE;
    private static final int MAX = Integer.MAX_VALUE;

    /**
     * The promise, '?' where the call only asks, its name, what it answers for others, and its arguments: what each is,
     * and a value with which the call is taken. Sorts that stand in OPEN have no bounds here.
     */
    private static final String[] CALLS = {
        "3 ! year 0 y:5 k:1", "6 ! end -1 e:5", "8 ? fault -1 w1:0", "9 ! by 0 T:1", "10 ! lend 0 o:0 y:5 p:0",
        "11 ! returned 0 o:2 y:6", "12 ! pass 0 o:2 y:6 p:0", "13 ! day -1 d:5", "14 ! played -2 t:0",
        "15 ! winters -1 s:5 w:3", "17 ? of -1 p:0 w4:0", "18 ? ofOak -1 o:0 w4:0", "19 ? ring -100 o:1 y:6",
        "20 ? lends -100 o:0 y:5 p:0", "21 ? pays -100 o:0 y:5 p:0", "22 ? kindOf -1 y:5", "23 ? is -2 w3:0",
        "24 ? book -2 i:0 w3:0", "25 ? foretold -1 d:5 w2:0 any:0", "25 ? foretold -1 d:5 =:1 p:0",
        "25 ? foretold -1 d:5 =:2 o:0", "26 ? same -1 p:0 =:1", "26 ? same -1 =:1 p:0", "27 ? kin -1 p:0",
        "29 ? earliest -1 p:0", "30 ? newest -1 p:0", "31 ! wants 0 q:0 a:7", "32 ! takes 0 q:0 w15:7",
        "36 ? plan -1 p:0", "37 ? vote -1 a:18", "38 ! mark -2 m:1", "39 ? dated -1 w10:3", "41 ? run -2 o:0 b:0",
        "41 ? run -2 o:0 b:1", "42 ? alike -1 o:0 o:1", "43 ? stands -1 o:0 w24:20 b:0", "43 ? stands -1 o:0 w24:20 b:1",
        "45 ? owed -1 p:0", "46 ! price 0 k:1 a:7", "47 ? cheapest -1 p:0 c:3 b:0", "47 ? cheapest -1 p:0 c:3 b:1",
        "48 ! said -2 P:0 A:7", "51 ? left -1 y:5", "52 ? count -1 k:0", "56 ? ledger -2 P:0", "59 ? about -2 w7:0"};

    private static final String[] WHERE_THERE_IS_ROOM = {"2 ! oak -1 R:5", "4 ! person -1 a:5"};

    private static final String[] WITHOUT_ARGUMENTS = {"twins", "able", "needs", "block", "nearest", "whose", "eldest",
        "fenced", "bare", "fires"};

    private static final int[] ANY = {MIN, MIN + 1, -65536, -1000, -999, -257, -101, -100, -99, -24, -10, -9, -5, -2, -1,
        0, 1, 2, 3, 4, 5, 8, 9, 10, 11, 15, 16, 23, 24, 25, 30, 31, 32, 33, 40, 41, 60, 61, 63, 64, 99, 100, 255, 256, 300,
        301, 511, 9999, 10000, 65536, Scene.ALL, Scene.ALL + 1, 1 << 30, MAX - 1, MAX};

    private static final int[] FEWER = {MIN, -2, -1, 0, 1, 2, 5, 6, 23, 24, 32, 256, 1 << 24, MAX};

    public static void main(String[] args) {
        for (int[] town : new int[][] {{5, 5}, {3, 3}}) {
            for (String call : CALLS) {
                bounds(call, town[0], town[1]);
            }
        }
        for (String call : WHERE_THERE_IS_ROOM) {
            bounds(call, 3, 4);
            bounds(call, 4, 3);
        }
        whereItIsFull();
        askingChangesNothing();
        emptyTown();
        anyInts();
        anyTape();
        Due.finish();
    }

    private static Asked town(int oaks, int persons) {
        Asked x = Asked.program();
        Scene.build(x, oaks, persons);
        return x;
    }

    // ---- bounds

    private static int least(String sort) {
        switch (sort) {
            case "d": case "w": case "c": return 1;
            case "T": case "i": case "m": case "P": return -1;
            case "A": return -999;
            default: return 0;
        }
    }

    private static int greatest(String sort, int oaks, int persons) {
        switch (sort) {
            case "o": return oaks - 1;
            case "p": case "P": return persons - 1;
            case "q": return 4;
            case "y": return 23;
            case "k": case "m": return 3;
            case "a": return 99;
            case "d": return 60;
            case "t": case "T": return Scene.TEXTS - 1;
            case "s": case "A": return 9999;
            case "w": return 40;
            case "c": return 9;
            case "R": return Scene.ALL;
            case "e": return Scene.TAPE.length();
            case "i": return Scene.CUTS - 1;
            default: return Integer.parseInt(sort.substring(1));
        }
    }

    private static boolean isOpen(String sort) {
        return sort.equals("=") || sort.equals("b") || sort.equals("any");
    }

    private static void bounds(String call, int oaks, int persons) {
        String[] parts = call.split(" ");
        boolean asks = parts[1].equals("?");
        String name = parts[2];
        int refusal = Integer.parseInt(parts[3]);
        int[] numbers = new int[parts.length - 4];
        for (int i = 0; i < numbers.length; i++) {
            numbers[i] = Integer.parseInt(parts[4 + i].split(":")[1]);
        }
        String before = Scene.seen(town(oaks, persons));
        taken(parts[0], before, asks, town(oaks, persons), name, numbers, refusal);
        for (int i = 0; i < numbers.length; i++) {
            String sort = parts[4 + i].split(":")[0];
            if (isOpen(sort)) {
                continue;
            }
            int low = least(sort);
            int high = greatest(sort, oaks, persons);
            for (int value : new int[] {low, high}) {
                taken(parts[0], before, asks, town(oaks, persons), name, with(numbers, i, value), refusal);
            }
            for (int value : new int[] {low - 1, high + 1, MIN, MIN + low, MAX, MIN + high, high + 256, high - 256, 1 << 30}) {
                boolean isOther = value < low || value > high;
                if (isOther) {
                    refused(parts[0], before, town(oaks, persons), name, with(numbers, i, value), refusal);
                }
            }
        }
    }

    private static int[] with(int[] numbers, int at, int value) {
        int[] all = numbers.clone();
        all[at] = value;
        return all;
    }

    private static String said(String promise, String name, int[] numbers) {
        return promise + ": " + name + java.util.Arrays.toString(numbers);
    }

    private static void taken(String promise, String before, boolean asks, Asked x, String name, int[] numbers, int refusal) {
        String what = said(promise, name, numbers);
        Due.yes(what + " is taken", x.ask(name, numbers) != refusal);
        if (asks) {
            Due.yes(what + " changes nothing", Scene.seen(x).equals(before));
        }
    }

    private static void refused(String promise, String before, Asked x, String name, int[] numbers, int refusal) {
        String what = said(promise, name, numbers);
        Due.is(what, refusal, x.ask(name, numbers));
        Due.yes(what + " leaves all as it was", Scene.seen(x).equals(before));
    }

    // ---- full, asking, empty

    private static void whereItIsFull() {
        String before = Scene.seen(town(5, 5));
        for (int rings : new int[] {0, 1, Scene.ALL, MIN, MAX, -1}) {
            refused("2", before, town(5, 5), "oak", new int[] {rings}, -1);
        }
        for (int own : new int[] {0, 1, 99, MIN, MAX, -1}) {
            refused("4", before, town(5, 5), "person", new int[] {own}, -1);
        }
        // The scene's tape has ten bytes: fourteen times twenty come, the fifteenth time they don't.
        for (int times = 0; times <= 14; times++) {
            Asked x = town(3, 3);
            for (int i = 0; i < times; i++) {
                Due.is("5: feed", 30 + 20 * i, x.ask("feed", 1, 2, 3, 4, 5));
            }
            long had = x.ask("about", 7);
            Due.is("5: there would be more than 300", times == 14 ? -1 : had + 20, x.ask("feed", 0, MIN, MAX, -1, 1));
            Due.is("5: none come then", times == 14 ? 290 : had + 20, x.ask("about", 7));
        }
    }

    private static void askingChangesNothing() {
        String before = Scene.seen(town(5, 5));
        for (String name : WITHOUT_ARGUMENTS) {
            Asked x = town(5, 5);
            x.ask(name);
            Due.yes(name + " changes nothing", Scene.seen(x).equals(before));
        }
        for (int low = 0; low < 2; low++) {
            Asked x = town(5, 5);
            x.ask("expects", low);
            Due.yes("44: expects changes nothing", Scene.seen(x).equals(before));
        }
        Asked y = town(5, 5);
        for (int n = 1; n <= 60; n++) {
            for (int what = 0; what < 3; what++) {
                y.ask("foretold", n, what, n % 5);
            }
            if (y.calls() > 110) {
                break;
            }
        }
        Due.yes("25: foretold changes nothing", Scene.seen(y).equals(before));
    }

    /** What a new object answers; whatever of oaks, persons, texts or cuts is asked for isn't there. */
    private static void emptyTown() {
        String[] refusals = {"by 0 0", "lend 0 0 0 0", "returned 0 0 0", "pass 0 0 0 0", "played -2 0", "undo -1", "of -1 0 0",
            "ofOak -1 0 0", "ring -100 0 0", "lends -100 0 0 0", "pays -100 0 0 0", "book -2 0 0", "foretold -1 1 1 0",
            "foretold -1 1 2 0", "same -1 0 1", "kin -1 0", "earliest -1 0", "newest -1 0", "block -1", "plan -1 0",
            "nearest -1", "run -2 0 0", "run -2 0 1", "alike -1 0 1", "alike -1 0 0", "stands -1 0 0 0", "stands -1 0 0 1",
            "owed -1 0", "cheapest -1 0 1 0", "cheapest -1 0 1 1", "said -2 0 0", "eldest -1", "bare -1", "ledger -2 0",
            "fault -1 0", "fault -1 1"};
        String[] answers = {"by 1 -1", "day 0 60", "winters 30 0 1", "kindOf 0 0", "kindOf 0 23", "is 0 0", "is 0 1", "is 257 2",
            "is 30 3", "book 0 -1 0", "foretold 0 1 0 0", "twins 0", "wants 1 4 99", "takes 1 4 15", "able 0", "needs 0",
            "vote 0 0", "vote 0 99", "mark 0 -1", "mark 1 0", "dated 16777215 0", "dated 16777215 10", "expects 0 0",
            "expects 1 1", "price 1 3 99", "said 0 -1 0", "whose 0", "left 0 0", "left 0 23", "count 0 0", "count 0 3",
            "fenced 0", "fires 0", "ledger 0 -1", "image 0", "back 0", "about 0 0", "about 0 1", "about 0 2", "about -1 3",
            "about 0 4", "about 0 5", "about 0 6", "about 0 7", "end 0 0", "oak 0 0", "person 0 0", "text 0"};
        String before = Scene.seen(Asked.program());
        for (String call : refusals) {
            Asked x = Asked.program();
            refused("1", before, x, call.split(" ")[0], numbers(call), Integer.parseInt(call.split(" ")[1]));
        }
        for (String call : answers) {
            String name = call.split(" ")[0];
            Due.is("1: a new object: " + call, Integer.parseInt(call.split(" ")[1]), Asked.program().ask(name, numbers(call)));
        }
    }

    private static int[] numbers(String call) {
        String[] parts = call.split(" ");
        int[] numbers = new int[parts.length - 2];
        for (int i = 0; i < numbers.length; i++) {
            numbers[i] = Integer.parseInt(parts[2 + i]);
        }
        return numbers;
    }

    // ---- any int at all, as the Model answers

    private static void anyInts() {
        for (int[] town : new int[][] {{0, 0}, {5, 5}, {3, 4}}) {
            for (Map.Entry<String, Method> call : Asked.FACE.entrySet()) {
                Pair pair = new Pair(town[0], town[1]);
                int count = call.getValue().getParameterCount();
                if (count > 3) {
                    continue;
                }
                int[] values = count > 2 ? FEWER : ANY;
                int[] numbers = new int[count];
                long all = Math.round(Math.pow(values.length, count));
                for (long n = 0; n < all; n++) {
                    long rest = n;
                    for (int i = 0; i < count; i++) {
                        numbers[i] = values[(int) (rest % values.length)];
                        rest /= values.length;
                    }
                    pair.ask(call.getKey(), numbers);
                }
                pair.finish();
            }
        }
    }

    /** The program and the Model, asked alike; made anew when they were asked often. */
    private static final class Pair {
        private final int oaks;
        private final int persons;
        private Asked program;
        private Asked model;

        Pair(int oaks, int persons) {
            this.oaks = oaks;
            this.persons = persons;
            begin();
        }

        private void begin() {
            program = Asked.program();
            model = Asked.model();
            if (oaks > 0) {
                Scene.build(program, oaks, persons);
                Scene.build(model, oaks, persons);
            }
        }

        void ask(String name, int[] numbers) {
            if (program.calls() >= 512) {
                begin();
            }
            long want = model.ask(name, numbers);
            Due.is("any int: " + said("" + oaks, name, numbers), want, program.ask(name, numbers));
        }

        /** Both are seen behind the last call of a name, where that many calls are left. */
        void finish() {
            if (program.calls() > 100) {
                return;
            }
            Due.yes("all is as the model's", Scene.seen(program).equals(Scene.seen(model)));
        }
    }

    /** Any four bytes: the highest of a first. */
    private static void anyTape() {
        for (int value : ANY) {
            for (int at = 0; at < 5; at++) {
                int[] five = new int[5];
                java.util.Arrays.fill(five, 0x20202020);
                five[at] = value;
                Asked program = Asked.program();
                Asked model = Asked.model();
                Due.is("5: any int", model.ask("feed", five), program.ask("feed", five));
                Due.is("7: any int", model.ask("text"), program.ask("text"));
                Due.is("8: any int", model.ask("fault", 0), program.ask("fault", 0));
                Due.is("8: place of any int", model.ask("fault", 1), program.ask("fault", 1));
            }
        }
    }
}
