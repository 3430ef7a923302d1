/** A town with something of all that there can be, and all that can be seen of a town. */
final class Scene {
    static final int ALL = 0xffffff;
    static final int STEPS = 30;
    static final int CUTS = 5;
    static final String TAPE = "person 99;";
    static final int TEXTS = 3;

    private Scene() {
    }

    /** Of an oak 2 the years 0, 6 and 23 are lent, of each oak 6, all to person 1; of oak 0 neither 0, 5 nor 23 is. */
    static void build(Asked x, int oaks, int persons) {
        for (int o = 0; o < oaks; o++) {
            x.ask("oak", ALL);
        }
        for (int p = 0; p < persons; p++) {
            x.ask("person", 10 * (p + 1));
        }
        x.ask("year", 1, 1);
        x.ask("year", 2, 2);
        x.ask("year", 3, 3);
        x.ask("year", 23, 3);
        x.tell("pays 0;");
        x.ask("by", 0);
        for (int i = 0; i < CUTS; i++) {
            x.ask("lend", i % oaks, 12 + i, i % persons);
        }
        x.ask("day", 30);
        x.tell("ages 2;");
        x.tell("day 1;");
        x.ask("mark", 1);
        x.ask("said", 0, 12);
        x.ask("image");
        for (int p = 0; p < persons; p++) {
            x.ask("lend", 0, 7 + p, p);
        }
        for (int o = 0; o < oaks; o++) {
            x.ask("lend", o, 6, 1);
        }
        x.ask("lend", 2, 0, 1);
        x.ask("lend", 2, 23, 1);
        x.ask("day", 3);
        x.ask("by", 1);
        x.ask("mark", 2);
        x.ask("said", 1, 26);
        x.ask("wants", 0, 40);
        x.ask("takes", 0, 7);
        x.ask("price", 1, 5);
        x.tell("day 61;");
        x.put(TAPE);
    }

    /** All that can be seen, up to what undoing and going back lead to; the object is of no more use then. */
    static String seen(Asked x) {
        StringBuilder all = new StringBuilder();
        each(all, x, "about", 8);
        each(all, x, "is", 4);
        each(all, x, "fault", 2);
        each(all, x, "kindOf", 24);
        each(all, x, "plan", 5);
        each(all, x, "owed", 5);
        for (int i = 0; i < 5; i++) {
            each(all, x, "of", i, 5);
            each(all, x, "ofOak", i, 5);
            each(all, x, "ring", i, 24);
            each(all, x, "book", i, 4);
            each(all, x, "cheapest", i, 3, 2);
        }
        for (String name : new String[] {"able", "needs", "block", "nearest", "whose", "expects"}) {
            note(all, x, name, name.equals("expects") ? new int[] {0} : new int[0]);
        }
        note(all, x, "dated", 1);
        note(all, x, "foretold", 60, 0, 0);
        note(all, x, "text");
        each(all, x, "fault", 2);
        note(all, x, "played", 3);
        for (int i = 0; i <= STEPS; i++) {
            note(all, x, "undo");
            note(all, x, "is", 0);
            note(all, x, "is", 2);
            note(all, x, "ofOak", 2, 1);
        }
        note(all, x, "back");
        each(all, x, "about", 8);
        note(all, x, "ofOak", 2, 1);
        note(all, x, "whose");
        return all.toString();
    }

    /** Notes the answers for all last arguments below a bound. */
    private static void each(StringBuilder all, Asked x, String name, int... numbersAndBound) {
        int[] numbers = numbersAndBound.clone();
        for (int i = 0; i < numbersAndBound[numbers.length - 1]; i++) {
            numbers[numbers.length - 1] = i;
            note(all, x, name, numbers);
        }
    }

    private static void note(StringBuilder all, Asked x, String name, int... numbers) {
        all.append(name).append(java.util.Arrays.toString(numbers)).append(' ').append(x.ask(name, numbers)).append('\n');
    }
}
