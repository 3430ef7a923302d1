/**
 * Each sentence of the document that names a boundary, by hand: what is just so and what is one beside it, what is empty
 * and what is full. The bounds of arguments themselves: ArgumentsTest.
 */
public final class BoundsTest {
    private static final int NONE = TreesLendRings.NONE;
    private static final int ALL = 0xffffff;

    public static void main(String[] args) {
        oaksAndPersonsOneByOne();
        ringsByYears();
        kindsOfYears();
        fenced();
        lendsMoreThanNothing();
        whereARingCanGo();
        midsummerIsEachThirtiethDay();
        drawsBelowPays();
        drawsGoOn();
        allThatCanBeCut();
        daysToTheLast();
        thirtyDaysOfWinters();
        whatThereAreNoneOf();
        wintersAreOneStep();
        whatIsAStep();
        latestThirtySteps();
        latestThirtyCuts();
        ringsOfOaksToldSince();
        fullTape();
        fourTexts();
        playedDays();
        playedToTheFull();
        lawsOfThePersonThatIsLentTo();
        fiveHundredAndTwelveCalls();
        Due.finish();
    }

    private static TreesLendRings wood(int oaks, int persons) {
        TreesLendRings x = new TreesLendRings();
        for (int i = 0; i < oaks; i++) {
            x.oak(ALL);
        }
        for (int i = 0; i < persons; i++) {
            x.person(10 * i);
        }
        return x;
    }

    /** The wood with a text that rules. */
    private static TreesLendRings under(String text, int oaks, int persons) {
        TreesLendRings x = wood(oaks, persons);
        Due.is("7: " + text, 0, Due.tell(x, text));
        x.by(0);
        return x;
    }

    private static int next(int x) {
        return (x * 499 + 383) % 30689;
    }

    // ==== I.

    private static void oaksAndPersonsOneByOne() {
        TreesLendRings x = new TreesLendRings();
        for (int i = 0; i < 5; i++) {
            Due.is("18: not told yet", NONE, x.ofOak(i, 0));
            Due.is("17: not told yet", NONE, x.of(i, 0));
            Due.is("2: one by one", i, x.oak((1 << i + 1) - 1));
            Due.is("4: one by one", i, x.person(99 - i));
        }
        Due.is("2: there are 5", NONE, x.oak(0));
        Due.is("4: there are 5", NONE, x.person(0));
        for (int i = 0; i < 5; i++) {
            Due.is("18: its own rings", (1 << i + 1) - 1, x.ofOak(i, 1));
            Due.is("17: its own years", 99 - i, x.of(i, 0));
        }
        Due.is("59: OAKS", 5, x.about(0));
        Due.is("59: PERSONS", 5, x.about(1));
        x.back();
        Due.is("2: the first again", 0, x.oak(3));
        Due.is("4: the first again", 0, x.person(3));
        Due.is("18: the first again", 2, x.ofOak(0, 0));
        Due.is("17: the first again", 3, x.of(0, 0));
    }

    private static void ringsByYears() {
        for (int y = 0; y < 24; y++) {
            TreesLendRings x = new TreesLendRings();
            Due.is("2: a year", 0, x.oak(1 << y));
            Due.is("2: all but a year", 1, x.oak(ALL - (1 << y)));
            for (int other = 0; other < 24; other++) {
                Due.is("19: year " + other, other == y ? NONE : -100, x.ring(0, other));
                Due.is("19: no year " + other, other == y ? -100 : NONE, x.ring(1, other));
                Due.is("51: year " + other, other == y ? 1 : 2, x.left(other));
            }
            Due.is("41: one", 1, x.run(0, false));
            Due.is("41: that", y, x.run(0, true));
            Due.is("41: beside it", Math.max(y, 23 - y), x.run(1, false));
            Due.is("41: the earlier of like ones", y > 23 - y ? 0 : y + 1, x.run(1, true));
            Due.is("42: not in one", 0, x.alike(0, 1));
            x.person(0);
            Due.yes("10: lent", x.lend(1, (y + 1) % 24, 0));
            Due.is("42: alike in one", 1, x.alike(0, 1));
            Due.is("42: the other way round", 1, x.alike(1, 0));
            Due.is("29: that", (y + 1) % 24, x.earliest(0));
            Due.is("30: that", (y + 1) % 24, x.newest(0));
            Due.is("17: that", 1 << (y + 1) % 24, x.of(0, 3));
        }
    }

    private static void kindsOfYears() {
        TreesLendRings x = wood(1, 1);
        for (int y = 0; y < 24; y++) {
            Due.is("22: plain at first", 0, x.kindOf(y));
        }
        int[] ages = {1, 2, 0, 1};
        for (int y = 0; y < 24; y += 23) {
            for (int kind = 3; kind >= 0; kind--) {
                Due.yes("3: told", x.year(y, kind));
                Due.is("22: told", kind, x.kindOf(y));
                Due.is("22: others stay", 0, x.kindOf(11));
                x.lend(0, y, 0);
                Due.is("17: AGE without a law", ages[kind], x.of(0, 1));
                Due.is("17: KINDS", 1 << kind, x.of(0, 4));
                Due.is("55: of fire", kind == 3 ? 1 : 0, x.fires());
                Due.is("52: it isn't in its oak", 0, kind == 0 ? 0 : x.count(kind));
                x.returned(0, y);
                Due.is("52: it is", kind == 0 ? 24 : 1, x.count(kind));
            }
        }
    }

    private static void fenced() {
        for (int rings = 0; rings <= 24; rings++) {
            TreesLendRings x = new TreesLendRings();
            x.oak((1 << rings) - 1);
            x.person(0);
            Due.is("18: FENCED of " + rings, rings <= 9 ? 1 : 0, x.ofOak(0, 4));
            Due.is("53: FENCED of " + rings, rings <= 9 ? 1 : 0, x.fenced());
            x.wants(0, 99);
            Due.is("33: of " + rings, Math.max(0, rings - 9), x.able());
            Due.is("36: of " + rings, Math.max(0, rings - 9), x.plan(0));
            x.wants(0, Math.max(0, rings - 9));
            Due.is("35: just so", NONE, x.block());
            x.wants(0, Math.max(0, rings - 9) + 1);
            Due.is("35: one more", 1, x.block());
            Due.is("47: of " + rings, rings > 9 ? 10 : NONE, x.cheapest(0, 1, true));
            for (int y = 0; y < 24; y++) {
                boolean can = y < rings && rings - y > 9;
                Due.is("10: ring " + y + " of " + rings, can ? 1 : 0, x.lend(0, y, 0) ? 1 : 0);
            }
            Due.is("18: in it", Math.min(9, rings), x.ofOak(0, 0));
            Due.is("18: FENCED then", 1, x.ofOak(0, 4));
            Due.is("18: lent", Math.max(0, rings - 9), x.ofOak(0, 2));
            if (rings > 9) {
                Due.yes("11: from a fenced one", x.returned(0, 0));
                Due.is("18: no more", 0, x.ofOak(0, 4));
                Due.yes("10: again", x.lend(0, 0, 0));
            }
        }
    }

    private static void lendsMoreThanNothing() {
        int[] says = {-99, -1, 0, 1, 99};
        for (int n : says) {
            TreesLendRings x = wood(1, 2);
            Due.tell(x, "lends " + n + ";");
            x.lend(0, 1, 0);
            x.by(0);
            Due.is("20: says", n, x.lends(0, 0, 0));
            Due.is("10: saying " + n, n > 0 ? 1 : 0, x.lend(0, 0, 0) ? 1 : 0);
            Due.is("12: saying " + n, n > 0 ? 1 : 0, x.pass(0, 1, 1) ? 1 : 0);
            Due.yes("11: whatever lends says", x.returned(0, 1));
            Due.is("59: STEPS", n > 0 ? 4 : 2, x.about(4));
        }
    }

    /** A RING is in its OAK, with a PERSON or cut: what each call can do then. */
    private static void whereARingCanGo() {
        TreesLendRings x = under("pays 0;", 1, 2);
        Due.no("11: in its oak", x.returned(0, 4));
        Due.no("12: in its oak", x.pass(0, 4, 0));
        Due.no("12: in its oak", x.pass(0, 4, 1));
        Due.yes("10: in its oak", x.lend(0, 4, 0));
        Due.no("10: with it", x.lend(0, 4, 0));
        Due.no("10: with another", x.lend(0, 4, 1));
        Due.no("12: with itself", x.pass(0, 4, 0));
        Due.yes("12: with another", x.pass(0, 4, 1));
        Due.yes("12: and again", x.pass(0, 4, 0));
        Due.yes("11: with it", x.returned(0, 4));
        Due.yes("10: again", x.lend(0, 4, 1));
        Due.is("59: STEPS", 5, x.about(4));
        Due.is("13: cut", 1, x.day(30));
        Due.no("10: cut", x.lend(0, 4, 0));
        Due.no("11: cut", x.returned(0, 4));
        Due.no("12: cut", x.pass(0, 4, 0));
        Due.is("59: no more STEPS", 30, x.about(4));
        Due.is("19: cut", 9, x.ring(0, 4));
        Due.is("51: cut", 0, x.left(4));
        Due.is("13: not cut again", 0, x.day(30));
        Due.is("23: no draw", next(257), x.is(2));
    }

    private static void midsummerIsEachThirtiethDay() {
        TreesLendRings x = under("pays 10;", 1, 1);
        int draws = 257;
        for (int day = 1; day <= 95; day++) {
            x.lend(0, 0, 0);
            Due.is("23: till MIDSUMMER", 30 - (day - 1) % 30, x.is(3));
            x.day(1);
            boolean is = day % 30 == 0;
            draws = is ? next(draws) : draws;
            Due.is("13: back on DAY " + day, is ? NONE : 0, x.ring(0, 0));
            Due.is("23: X on DAY " + day, draws, x.is(2));
        }
    }

    /** The draws are 7, 0, 8, 3, 6, 6: below pays a ring is back, else it is cut. */
    private static void drawsBelowPays() {
        int[] draws = {7, 0, 8, 3, 6, 6};
        for (int pays = 0; pays <= 10; pays++) {
            TreesLendRings x = under("pays " + pays + ";", 3, 2);
            int[][] rings = {{0, 0}, {0, 23}, {1, 2}, {1, 3}, {2, 1}, {2, 22}};
            for (int i = 5; i >= 0; i--) {
                x.lend(rings[i][0], rings[i][1], i % 2);
            }
            int cut = 0;
            for (int draw : draws) {
                cut += draw < pays ? 0 : 1;
            }
            Due.is("25: CUTS by " + pays, cut, x.foretold(30, 0, 0));
            Due.is("25: not yet", 0, x.foretold(29, 0, 0));
            Due.is("13: cut by " + pays, cut, x.day(30));
            Due.is("23: CUTS by " + pays, cut, x.is(1));
            int written = 0;
            for (int i = 0; i < 6; i++) {
                boolean back = draws[i] < pays;
                Due.is("19: draw " + draws[i] + " by " + pays, back ? NONE : 9, x.ring(rings[i][0], rings[i][1]));
                if (!back) {
                    Due.is("24: its OAK", rings[i][0], x.book(written, 2));
                    Due.is("24: its YEAR", rings[i][1], x.book(written, 3));
                    Due.is("24: its PERSON", i % 2, x.book(written, 1));
                    written++;
                }
            }
            Due.is("24: no more", -2, x.book(written, 0));
        }
    }

    private static void drawsGoOn() {
        TreesLendRings x = under("pays 10;", 5, 1);
        int draws = 257;
        for (int round = 0; round < 6; round++) {
            for (int o = 0; o < 5; o++) {
                for (int y = 9; y < 24; y++) {
                    x.lend(o, y, 0);
                    draws = next(draws);
                }
            }
            x.day(30);
            Due.is("23: X behind " + 75 * (round + 1) + " draws", draws, x.is(2));
        }
        Due.is("13: none is cut by 10", 0, x.is(1));
    }

    private static void allThatCanBeCut() {
        TreesLendRings x = under("pays 0;", 5, 5);
        for (int o = 0; o < 5; o++) {
            for (int y = 0; y < 15; y++) {
                x.lend(o, 23 - y, o);
            }
            Due.no("10: nine are left", x.lend(o, 0, o));
        }
        Due.is("44: all of them", 75, x.expects(false));
        Due.is("44: surely", 1, x.expects(true));
        Due.is("13: all of them", 75, x.day(30));
        Due.is("23: CUTS", 75, x.is(1));
        Due.is("24: thirty of them", 30, x.book(NONE, 0));
        Due.is("24: from the ninth on of oak 3", 9, x.book(0, 3));
        Due.is("24: of oak 3", 3, x.book(0, 2));
        Due.is("24: up to year 23 of oak 4", 23, x.book(29, 3));
        Due.is("24: of oak 4", 4, x.book(29, 2));
        Due.is("53: all", 31, x.fenced());
        Due.is("13: none any more", 0, x.day(60));
        for (int o = 0; o < 5; o++) {
            Due.is("18: cut", 15, x.ofOak(o, 3));
            Due.is("43: what is in it", 1, x.stands(o, 9, false));
            Due.is("43: cut ones never", 0, x.stands(o, 10, false));
        }
    }

    private static void daysToTheLast() {
        TreesLendRings x = wood(1, 1);
        for (int i = 0; i < 166; i++) {
            x.day(60);
        }
        Due.is("13: beyond", NONE, x.day(40));
        Due.is("59: STEPS stay", 30, x.about(4));
        Due.is("13: up to it", 0, x.day(38));
        Due.is("23: DAY", 9998, x.is(0));
        Due.is("13: beyond by one", NONE, x.day(2));
        Due.is("23: nothing is done", 9998, x.is(0));
        Due.is("13: the last", 0, x.day(1));
        Due.is("23: the last", 9999, x.is(0));
        Due.is("23: till MIDSUMMER", 21, x.is(3));
        Due.is("13: none can pass", NONE, x.day(1));
        Due.is("13: none can pass", NONE, x.day(60));
        Due.yes("10: even so", x.lend(0, 0, 0));
        Due.is("25: none can pass", 1, x.foretold(60, 1, 0));
        Due.is("15: none can pass", 9999, x.winters(0, 1));
        Due.is("23: X even so", next(257), x.is(2));
        Due.is("57: DAY", 9999, x.image());
        Due.is("58: DAY", 9999, x.back());
        Due.yes("11: even so", x.returned(0, 0));
    }

    /** By seed 0 x is 257, 5 mod 6: thirty days, if they all can pass. */
    private static void thirtyDaysOfWinters() {
        for (int from = 9968; from <= 9971; from++) {
            TreesLendRings x = under("pays 0;", 1, 1);
            for (int i = 0; i < 166; i++) {
                x.day(60);
            }
            x.day(from - 9960);
            x.lend(0, 0, 0);
            boolean can = from + 30 <= 9999;
            Due.is("15: from DAY " + from, can ? from + 30 : from, x.winters(0, 1));
            Due.is("15: MIDSUMMER within", can ? 9 : 0, x.ring(0, 0));
            Due.is("15: written down", can ? 9990 : -2, x.book(0, 0));
        }
    }

    private static void whatThereAreNoneOf() {
        for (int seed = 0; seed < 60; seed++) {
            int first = seed * 2 + 257;
            long days = first % 6 == 5 ? 30 : 0;
            TreesLendRings none = new TreesLendRings();
            TreesLendRings oaks = wood(1, 0);
            TreesLendRings persons = wood(0, 1);
            TreesLendRings both = wood(1, 1);
            for (TreesLendRings x : new TreesLendRings[] {none, oaks, persons, both}) {
                Due.is("15: DAY by " + seed, days, x.winters(seed, 1));
                Due.is("15: X by " + seed, next(first), x.is(2));
                Due.is("15: a STEP", 1, x.about(4));
            }
            Due.is("15: no persons", ALL, oaks.ofOak(0, 1));
            Due.is("15: no oaks", 0, persons.of(0, 2));
            int lent = first % 6 <= 2 ? 1 << first / 6 % 24 : 0;
            Due.is("15: lent by " + seed, lent, both.of(0, 3));
        }
    }

    private static void wintersAreOneStep() {
        TreesLendRings x = wood(3, 3);
        x.lend(0, 0, 0);
        x.day(1);
        for (int n = 1; n <= 40; n++) {
            x.winters(7777, n);
            Due.is("15: one STEP", 3, x.about(4));
            x.undo();
            Due.is("16: as ahead of WINTERS: DAY", 1, x.is(0));
            Due.is("16: CUTS", 0, x.is(1));
            Due.is("16: X", 257, x.is(2));
            Due.is("16: BOOK", 0, x.book(NONE, 0));
            Due.is("16: RINGS", 1, x.of(0, 3) + x.of(1, 3) + x.of(2, 3));
        }
    }

    private static void whatIsAStep() {
        TreesLendRings x = wood(2, 2);
        x.year(0, 1);
        x.feed(1, 2, 3, 4, 5);
        x.end(0);
        Due.tell(x, "ages 2;");
        x.by(0);
        x.wants(0, 5);
        x.takes(0, 5);
        x.mark(1);
        x.price(0, 5);
        x.said(0, 5);
        x.image();
        x.back();
        Due.is("59: no STEPS", 0, x.about(4));
        Due.is("16: none", NONE, x.undo());
        x.lend(0, 0, 0);
        Due.is("59: LENT", 1, x.about(4));
        x.pass(0, 0, 1);
        Due.is("59: PASSED ON", 2, x.about(4));
        x.returned(0, 0);
        Due.is("59: BACK", 3, x.about(4));
        x.day(4);
        Due.is("59: DAYS, each", 7, x.about(4));
        x.winters(5, 3);
        Due.is("59: WINTERS", 8, x.about(4));
        Due.tell(x, "lend 1 of 1 to 1; day 2; year 5 is 1; pass 1 of 1 to 0; back 1 of 1; person 3; oak 1;");
        Due.is("14: all is done", NONE, x.played(1));
        Due.is("59: played", 13, x.about(4));
        for (int i = 12; i >= 0; i--) {
            Due.is("16: can be yet", i, x.undo());
        }
        Due.is("16: none any more", NONE, x.undo());
        Due.is("59: THE TEXT stays", 0, x.about(3));
        Due.is("59: PERSONS stay", 3, x.about(1));
        Due.is("59: OAKS stay", 3, x.about(0));
        Due.is("22: YEARS stay", 1, x.kindOf(5));
        Due.is("23: X as at first", 257, x.is(2));
    }

    private static void latestThirtySteps() {
        for (int steps = 28; steps <= 95; steps++) {
            TreesLendRings x = wood(0, 0);
            for (int left = steps; left > 0; left -= 60) {
                x.day(Math.min(60, left));
            }
            int kept = Math.min(30, steps);
            Due.is("59: STEPS of " + steps, kept, x.about(4));
            for (int i = 1; i <= kept; i++) {
                Due.is("16: can be yet", kept - i, x.undo());
                Due.is("16: the latest first", steps - i, x.is(0));
            }
            Due.is("16: none any more", NONE, x.undo());
            Due.is("16: nothing is done", steps - kept, x.is(0));
            x.day(2);
            Due.is("16: anew", 1, x.undo());
        }
    }

    private static void latestThirtyCuts() {
        for (int cuts = 29; cuts <= 33; cuts++) {
            TreesLendRings x = under("pays 0;", 3, 3);
            for (int i = 0; i < cuts; i++) {
                x.lend(i / 15, i % 15, i % 3);
            }
            Due.is("13: cut", cuts, x.day(30));
            int gone = Math.max(0, cuts - 30);
            Due.is("24: at most 30", cuts - gone, x.book(NONE, 0));
            Due.is("56: all of them", cuts - gone, x.ledger(NONE));
            for (int i = 0; i < cuts - gone; i++) {
                int which = i + gone;
                Due.is("24: its YEAR", which % 15, x.book(i, 3));
                Due.is("24: its OAK", which / 15, x.book(i, 2));
                Due.is("24: its PERSON", which % 3, x.book(i, 1));
                Due.is("24: its DAY", 30, x.book(i, 0));
            }
            Due.is("24: no more", -2, x.book(cuts - gone, 0));
            Due.is("23: CUTS", cuts, x.is(1));
            int together = x.ledger(0) + x.ledger(1) + x.ledger(2);
            Due.is("56: of all persons", cuts - gone, together);
            x.undo();
            Due.is("16: as ahead of it", 0, x.book(NONE, 0));
        }
    }

    private static void ringsOfOaksToldSince() {
        TreesLendRings x = under("pays 0;", 1, 1);
        x.day(10);
        x.lend(0, 0, 0);
        x.day(1);
        x.oak(ALL);
        x.lend(1, 3, 0);
        x.lend(1, 4, 0);
        x.day(19);
        Due.is("18: cut", 2, x.ofOak(1, 3));
        x.undo();
        Due.is("18: lent as ahead of it", 2, x.ofOak(1, 2));
        for (int i = 0; i < 20; i++) {
            x.undo();
        }
        Due.is("16: none of it is lent", 0, x.ofOak(1, 2));
        Due.is("16: they are in it", ALL, x.ofOak(1, 1));
        Due.is("17: with it as it was", 1, x.of(0, 2));
        x.undo();
        x.undo();
        Due.is("16: ahead of the oak", ALL, x.ofOak(1, 1));
        Due.is("17: nothing with it", 0, x.of(0, 2));
        Due.yes("10: it can be lent", x.lend(1, 3, 0));
    }

    // ==== II.

    private static void fullTape() {
        String full = "lends" + "1+".repeat(146) + "99;";
        TreesLendRings x = wood(1, 1);
        Due.is("7: 300 bytes", 0, Due.tell(x, full));
        x.by(0);
        Due.is("20: of 300 bytes", 99, x.lends(0, 0, 0));
        Due.put(x, full);
        Due.is("5: no more", NONE, x.feed(0, 0, 0, 0, 0));
        Due.is("6: beyond", NONE, x.end(301));
        Due.is("6: all of it", 300, x.end(300));
        Due.is("6: one less", 299, x.end(299));
        Due.is("6: not again", NONE, x.end(300));
        Due.is("7: without its last", NONE, x.text());
        Due.is("8: at the length", 299, x.fault(1));
        Due.is("59: empty", 0, x.about(7));
        Due.is("6: of nothing", 0, x.end(0));
        Due.is("6: not one", NONE, x.end(1));
        Due.is("7: nothing is a text", 1, x.text());
        String blanks = " ".repeat(300);
        Due.is("7: blanks alone", 2, Due.tell(x, blanks));
        Due.is("7: a word of 300", NONE, Due.tell(x, "a".repeat(300)));
        Due.is("8: it is none", 1, x.fault(0));
        Due.is("8: at its first byte", 0, x.fault(1));
        Due.is("7: a number of 295", NONE, Due.tell(x, "ages " + "9".repeat(295)));
        Due.is("8: none of those told", 2, x.fault(0));
        Due.is("8: at its first byte", 5, x.fault(1));
        Due.is("7: a number of 294", 3, Due.tell(x, "ages " + "0".repeat(290) + "9999;"));
    }

    private static void fourTexts() {
        TreesLendRings x = wood(1, 1);
        for (int i = 0; i < 4; i++) {
            Due.no("9: not told yet", x.by(i));
            Due.is("14: not told yet", -2, x.played(i));
            Due.is("7: " + i, i, Due.tell(x, "ages " + (i + 3) + ";"));
            Due.yes("9: told", x.by(i));
            Due.is("14: told", NONE, x.played(i));
        }
        Due.is("59: TEXTS", 4, x.about(2));
        x.lend(0, 0, 0);
        Due.is("17: by the fourth", 6, x.of(0, 1));
        String[] more = {"ages 9;", "ages ;", ""};
        for (String text : more) {
            Due.put(x, text);
            Due.is("7: there are 4", NONE, x.text());
            Due.is("7: the tape stays", text.length(), x.about(7));
            Due.is("8: the latest that was read", 0, x.fault(0));
            Due.is("8: its place", NONE, x.fault(1));
        }
        Due.is("17: still by the fourth", 6, x.of(0, 1));
        Due.put(x, "ages 9;");
        x.text();
        x.back();
        Due.is("7: from the tape that stayed", 0, x.text());
        Due.is("59: empty then", 0, x.about(7));
        x.oak(ALL);
        x.person(0);
        x.by(0);
        x.lend(0, 0, 0);
        Due.is("17: by it", 9, x.of(0, 1));
    }

    private static void playedDays() {
        for (int from = 9938; from <= 9941; from++) {
            TreesLendRings x = under("person 1; day 60; person 2;", 0, 0);
            for (int i = 0; i < 165; i++) {
                x.day(60);
            }
            x.day(from - 9900);
            boolean can = from + 60 <= 9999;
            Due.is("14: sixty from " + from, can ? NONE : 1, x.played(0));
            Due.is("14: those that can pass do", Math.min(9999, from + 60), x.is(0));
            Due.is("14: what is behind", can ? 2 : 1, x.about(1));
            Due.is("14: each a STEP", 30, x.about(4));
        }
    }

    private static void playedToTheFull() {
        TreesLendRings x = wood(4, 4);
        Due.tell(x, "ages 1; oak 0; person 1; oak 1; person 2;");
        Due.is("14: the sixth oak", 3, x.played(0));
        Due.is("14: five", 5, x.about(0));
        Due.is("14: five", 5, x.about(1));
        Due.is("14: none more", 1, x.played(0));
        TreesLendRings y = wood(5, 4);
        Due.tell(y, "person 1; pays 2; person 2;");
        Due.is("14: the sixth person", 2, y.played(0));
        Due.is("14: none more", 0, y.played(0));
        // Of what isn't told, or isn't there, a clause can't be.
        String[] cannot = {"lend 0 of 3 to 0;", "lend 0 of 0 to 4;", "lend 20 of 2 to 0;", "back 0 of 0;", "back 0 of 4;",
            "pass 0 of 0 to 1;", "pass 1 of 0 to 1;", "pass 1 of 0 to 4;", "lend 1 of 0 to 0;"};
        for (String clause : cannot) {
            TreesLendRings z = wood(2, 3);
            z.oak(0xfffff);
            z.lend(0, 1, 1);
            Due.is("7: " + clause, 0, Due.tell(z, "person 5;" + clause + "day 1;"));
            Due.is("14: " + clause, 1, z.played(0));
            Due.is("14: what was done stays", 4, z.about(1));
            Due.is("14: no more is done", 0, z.is(0));
            Due.is("14: no STEP", 1, z.about(4));
        }
        StringBuilder most = new StringBuilder();
        for (int i = 0; i < 23; i++) {
            most.append("day 1;");
        }
        TreesLendRings z = wood(1, 1);
        Due.is("7: 24 clauses", 0, Due.tell(z, most + "back 0 of 0;"));
        Due.is("14: the last of 24", 23, z.played(0));
        Due.is("14: all ahead of it", 23, z.is(0));
    }

    private static void lawsOfThePersonThatIsLentTo() {
        TreesLendRings x = under("lends if held < 2 then own - 5 else 0 end;", 1, 3);
        Due.no("10: OWN 0", x.lend(0, 0, 0));
        Due.yes("10: OWN 10", x.lend(0, 0, 1));
        Due.yes("10: holds one", x.lend(0, 1, 1));
        Due.no("10: holds two", x.lend(0, 2, 1));
        Due.yes("12: for that one", x.pass(0, 1, 2));
        Due.yes("10: one again", x.lend(0, 2, 1));
        Due.no("12: holds two", x.pass(0, 1, 1));
        Due.no("12: OWN 0", x.pass(0, 1, 0));
    }

    /** Up to the last call that an object is used for, all is answered; by calls of one sort, and by those of several. */
    private static void fiveHundredAndTwelveCalls() {
        TreesLendRings x = wood(5, 5);
        for (int i = 0; i < 167; i++) {
            Due.yes("10: again", x.lend(i % 5, i % 24, i % 4));
            Due.yes("12: again", x.pass(i % 5, i % 24, 4));
            Due.yes("11: again", x.returned(i % 5, i % 24));
        }
        Due.is("59: call 512", 30, x.about(4));
        TreesLendRings w = wood(5, 5);
        for (int i = 0; i < 501; i++) {
            w.winters(i, 40);
        }
        Due.yes("15: call 512", w.winters(0, 40) > 9969);
        TreesLendRings t = new TreesLendRings();
        for (int i = 0; i < 170; i++) {
            t.back();
            t.feed(0x61676573, 0x20313b20, 0x20202020, 0x20202020, 0x20202020);
            Due.is("7: the first again and again", 0, t.text());
        }
        Due.is("59: call 511", 1, t.about(2));
        Due.is("14: call 512", NONE, t.played(0));
        TreesLendRings f = new TreesLendRings();
        for (int i = 0; i < 255; i++) {
            f.feed(0x61676573, i, i, i, i);
            Due.is("7: with a FAULT again and again", NONE, f.text());
        }
        Due.is("8: call 511", 1, f.fault(0));
        Due.is("8: call 512", 4, f.fault(1));
    }
}
