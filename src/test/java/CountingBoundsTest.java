/** The bounds of what changes nothing (III, IV), and of AN IMAGE (V): just so and one beside it, empty and full. */
public final class CountingBoundsTest {
    private static final int NONE = TreesLendRings.NONE;
    private static final int ALL = 0xffffff;

    public static void main(String[] args) {
        foretoldIsWhatComes();
        foretoldUpToTheLastDay();
        agesOfThatDay();
        sameYearsOfPairs();
        kinOfAll();
        earliestAndNewest();
        wantedJustSo();
        wantedOfThoseNotThere();
        takenOfThoseNotThere();
        kindsThatAreTaken();
        lowestSetInTheWay();
        planInTheirOrder();
        moreThanHalf();
        agesThatVote();
        windowsOfMarks();
        unlikeMarks();
        lowestOfLikeDates();
        longestRuns();
        standsJustSo();
        fifteenLent();
        standsByPays();
        expectedOfAll();
        owedByPrices();
        nineAtMost();
        likeBaskets();
        cheapFromBareOaks();
        eightSaid();
        saidByWithout();
        eldestOfLikeOnes();
        barestOfLikeOnes();
        ledgerAtItsFull();
        imageOfTheFull();
        imageKeepsNeitherTapeNorFault();
        Due.finish();
    }

    private static TreesLendRings wood(int oaks, int persons) {
        TreesLendRings x = new TreesLendRings();
        for (int i = 0; i < oaks; i++) {
            x.oak(ALL);
        }
        for (int i = 0; i < persons; i++) {
            x.person(10 * i);
        }
        return x;
    }

    // ==== III.

    private static TreesLendRings lending(int days) {
        TreesLendRings x = wood(3, 3);
        x.year(4, 1);
        x.year(5, 2);
        Due.tell(x, "pays 10-held-kind*2; ages if day>40 then kind+held else 4 end;");
        x.by(0);
        for (int i = 0; i < 12; i++) {
            x.lend(i % 3, i, i * i % 3);
        }
        for (int i = 0; i < days; i++) {
            x.day(1);
        }
        return x;
    }

    private static void foretoldIsWhatComes() {
        for (int ahead : new int[] {0, 1, 28, 29, 30}) {
            for (int n = 1; n <= 60; n++) {
                TreesLendRings x = lending(ahead);
                TreesLendRings y = lending(ahead);
                y.day(n);
                Due.is("25: CUTS behind " + n, y.is(1), x.foretold(n, 0, NONE));
                for (int i = 0; i < 3; i++) {
                    Due.is("25: AGE behind " + n, y.of(i, 1), x.foretold(n, 1, i));
                    Due.is("25: RINGS behind " + n, y.ofOak(i, 0), x.foretold(n, 2, i));
                }
                Due.is("25: nothing is done", ahead, x.is(0));
                x.day(n);
                Due.is("25: it comes so", y.is(2), x.is(2));
            }
        }
    }

    private static void foretoldUpToTheLastDay() {
        TreesLendRings x = wood(1, 1);
        Due.tell(x, "ages day-9930; pays 0;");
        x.by(0);
        for (int i = 0; i < 166; i++) {
            x.day(60);
        }
        x.lend(0, 0, 0);
        Due.is("25: not yet", 0, x.foretold(29, 0, 0));
        Due.is("25: AGE", 59, x.foretold(29, 1, 0));
        Due.is("25: the last MIDSUMMER", 1, x.foretold(30, 0, 0));
        Due.is("25: those that can pass", 1, x.foretold(39, 0, 0));
        Due.is("25: no more can", 1, x.foretold(60, 0, 0));
        Due.is("25: AGE behind it", 0, x.foretold(60, 1, 0));
        Due.is("25: RINGS behind it", 23, x.foretold(60, 2, 0));
        x.day(30);
        x.lend(0, 1, 0);
        Due.is("25: eight", 68, x.foretold(8, 1, 0));
        Due.is("25: nine", 69, x.foretold(9, 1, 0));
        Due.is("25: nine can pass", 69, x.foretold(10, 1, 0));
        Due.is("25: nine can pass", 69, x.foretold(60, 1, 0));
        x.day(9);
        Due.is("25: none can", 69, x.foretold(1, 1, 0));
    }

    private static void agesOfThatDay() {
        TreesLendRings x = wood(1, 2);
        Due.tell(x, "ages day; pays 10*who;");
        x.by(0);
        x.lend(0, 0, 0);
        x.lend(0, 1, 1);
        Due.is("25: one DAY", 1, x.foretold(1, 1, 0));
        Due.is("25: 29 DAYS", 29, x.foretold(29, 1, 0));
        Due.is("25: cut", 0, x.foretold(30, 1, 0));
        Due.is("25: back", 10, x.foretold(30, 1, 1));
        Due.is("25: cut", 23, x.foretold(30, 2, 0));
        x.by(NONE);
        Due.is("25: by what is so without", 11, x.foretold(29, 1, 1));
    }

    private static void sameYearsOfPairs() {
        TreesLendRings x = wood(5, 5);
        for (int p = 0; p < 5; p++) {
            x.lend(p, 0, p);
            x.lend(p, 23, p);
            x.lend(p, 10 + p, p);
        }
        for (int p = 0; p < 5; p++) {
            for (int q = 0; q < 5; q++) {
                Due.is("26: " + p + " and " + q, p == q ? NONE : 1 << 23 | 1, x.same(p, q));
            }
            Due.is("27: all are", 31, x.kin(p));
            Due.is("17: each year once", 1 << 23 | 1 | 1 << 10 + p, x.of(p, 3));
        }
        Due.is("28: all pairs", 10, x.twins());
        x.returned(4, 0);
        Due.is("26: one less", 1 << 23, x.same(0, 4));
        Due.is("28: still all", 10, x.twins());
        x.returned(4, 23);
        Due.is("26: none", 0, x.same(4, 0));
        Due.is("28: without those of one", 6, x.twins());
        Due.is("27: alone", 16, x.kin(4));
        // Two rings of a year with one person are no pair.
        TreesLendRings y = wood(2, 2);
        y.lend(0, 3, 0);
        y.lend(1, 3, 0);
        Due.is("28: one person is no pair", 0, y.twins());
        Due.is("17: a year of two rings", 8, y.of(0, 3));
        Due.is("17: two rings", 2, y.of(0, 2));
    }

    /** A chain of kin in each order of persons: the ends are kin by all between them. */
    private static void kinOfAll() {
        int[][] orders = {{0, 1, 2, 3, 4}, {4, 3, 2, 1, 0}, {2, 0, 4, 1, 3}, {0, 4, 1, 3, 2}, {3, 1, 4, 0, 2}, {1, 3, 0, 4, 2}};
        for (int[] order : orders) {
            TreesLendRings x = wood(2, 5);
            int chain = 1 << order[0];
            for (int i = 0; i < 4; i++) {
                Due.is("27: not yet", 1 << order[i + 1], x.kin(order[i + 1]));
                x.lend(0, i, order[i]);
                x.lend(1, i, order[i + 1]);
                chain |= 1 << order[i + 1];
                for (int k = 0; k <= i + 1; k++) {
                    Due.is("27: kin by kin", chain, x.kin(order[k]));
                }
                Due.is("28: pairs", i + 1, x.twins());
            }
            x.returned(0, 2);
            Due.is("27: parted", 1 << order[0] | 1 << order[1] | 1 << order[2], x.kin(order[0]));
            Due.is("27: parted", 1 << order[3] | 1 << order[4], x.kin(order[4]));
        }
    }

    private static void earliestAndNewest() {
        TreesLendRings x = wood(2, 2);
        Due.is("29: none", NONE, x.earliest(0));
        Due.is("30: none", NONE, x.newest(0));
        x.lend(1, 12, 0);
        for (int i = 1; i <= 11; i++) {
            x.lend(0, 12 - i, 0);
            x.lend(1, 12 + i, 0);
            Due.is("29: least", 12 - i, x.earliest(0));
            Due.is("30: greatest", 12 + i, x.newest(0));
        }
        x.lend(0, 0, 0);
        Due.is("29: year 0", 0, x.earliest(0));
        Due.is("30: year 23", 23, x.newest(0));
        Due.is("29: of the other none", NONE, x.earliest(1));
        Due.is("30: of the other none", NONE, x.newest(1));
    }

    private static void wantedJustSo() {
        TreesLendRings x = new TreesLendRings();
        x.oak(ALL);
        x.person(0);
        x.person(99);
        Due.is("34: 0 is wanted at first", 0, x.needs());
        x.wants(1, 99);
        Due.is("34: just OWN", 0, x.needs());
        x.wants(0, 1);
        Due.is("34: one above OWN", 1, x.needs());
        x.lend(0, 0, 0);
        Due.is("34: it has one", 0, x.needs());
        x.lend(0, 1, 0);
        Due.is("34: 0 at least", 0, x.needs());
        x.wants(0, 99);
        Due.is("34: the most", 97, x.needs());
        Due.is("33: what there is", 13, x.able());
        Due.is("35: in the way", 1, x.block());
        x.wants(0, 15);
        Due.is("34: just so", 13, x.needs());
        Due.is("33: just so", 13, x.able());
        Due.is("35: nobody", NONE, x.block());
        x.wants(0, 16);
        Due.is("33: one too many", 13, x.able());
        Due.is("35: one too many", 1, x.block());
        // RINGS count one each for what is needed, whatever ages says of them.
        Due.tell(x, "ages 50;");
        x.by(0);
        Due.is("34: whatever ages says", 14, x.needs());
        TreesLendRings y = wood(5, 5);
        for (int p = 0; p < 5; p++) {
            y.wants(p, 10 * p + 15);
        }
        Due.is("34: all of them", 75, y.needs());
        Due.is("33: all that can be", 75, y.able());
        Due.is("35: nobody", NONE, y.block());
        y.wants(2, 36);
        Due.is("33: no more", 75, y.able());
        Due.is("35: all of them", 31, y.block());
    }

    private static void wantedOfThoseNotThere() {
        TreesLendRings x = wood(1, 0);
        for (int p = 0; p < 5; p++) {
            Due.yes("31: not there", x.wants(p, 3));
        }
        Due.is("34: nobody is there", 0, x.needs());
        Due.is("33: nobody is there", 0, x.able());
        Due.is("35: nobody is there", NONE, x.block());
        for (int p = 0; p < 5; p++) {
            Due.is("36: not there", NONE, x.plan(p));
            x.person(0);
            Due.is("34: there", 3 * (p + 1), x.needs());
            Due.is("33: there", 3 * (p + 1), x.able());
            Due.is("36: there", 3, x.plan(p));
        }
    }

    private static void takenOfThoseNotThere() {
        TreesLendRings x = wood(2, 0);
        for (int p = 0; p < 5; p++) {
            Due.yes("32: not there", x.takes(p, p == 2 ? 0 : 1));
        }
        x.year(7, 2);
        for (int p = 0; p < 5; p++) {
            Due.is("47: not there", NONE, x.cheapest(p, 1, true));
            x.person(0);
            Due.is("47: there", p == 2 ? NONE : 10, x.cheapest(p, 1, true));
            x.wants(p, 2);
            Due.is("36: there", p == 2 ? 0 : 2, x.plan(p));
        }
        Due.is("35: who takes none", 4, x.block());
    }

    /** By each set of kinds: as many as there are of them, up to what the oak has above 9. */
    private static void kindsThatAreTaken() {
        int[] there = {3, 1, 6, 2};
        for (int kinds = 0; kinds < 16; kinds++) {
            TreesLendRings x = new TreesLendRings();
            x.oak(0xfff);
            x.oak(0xfff000);
            x.person(0);
            int y = 0;
            for (int kind = 0; kind < 4; kind++) {
                for (int i = 0; i < there[kind]; i++) {
                    x.year(y, kind);
                    x.year(y + 12, kind);
                    y++;
                }
            }
            x.wants(0, 99);
            x.takes(0, kinds);
            int sum = 0;
            for (int kind = 0; kind < 4; kind++) {
                sum += (kinds >> kind & 1) * there[kind];
            }
            int most = 2 * Math.min(3, sum);
            Due.is("33: of kinds " + kinds, most, x.able());
            Due.is("36: of kinds " + kinds, most, x.plan(0));
            Due.is("35: of kinds " + kinds, 1, x.block());
            x.wants(0, most);
            Due.is("35: just so many of kinds " + kinds, NONE, x.block());
            for (int n = 1; n <= 9; n++) {
                Due.is("47: " + n + " of kinds " + kinds, n <= most ? 10 * n : NONE, x.cheapest(0, n, true));
            }
        }
    }

    private static void lowestSetInTheWay() {
        for (int who = 0; who < 5; who++) {
            TreesLendRings x = wood(1, 5);
            x.takes(who, 8);
            x.wants(who, 10 * who + 1);
            Due.is("35: alone " + who, 1 << who, x.block());
            x.year(0, 3);
            Due.is("35: nobody", NONE, x.block());
            int other = (who + 2) % 5;
            x.takes(other, 8);
            x.wants(other, 10 * other + 1);
            Due.is("35: two for one ring", 1 << who | 1 << other, x.block());
            x.year(1, 3);
            Due.is("35: a ring for each", NONE, x.block());
            x.takes(who, 4);
            x.takes(other, 2);
            Due.is("35: two sets are more than one", 1 << who | 1 << other, x.block());
            x.year(2, 1);
            Due.is("35: now one", 1 << who, x.block());
            // Who needs nothing isn't in the way, though it makes no odds.
            Due.is("34: two", 2, x.needs());
            Due.is("33: one of two", 1, x.able());
        }
    }

    private static void planInTheirOrder() {
        TreesLendRings x = new TreesLendRings();
        x.oak(0xfff);
        for (int p = 0; p < 5; p++) {
            x.person(0);
            x.wants(p, 1);
        }
        int[] first = {1, 1, 1, 0, 0};
        for (int p = 0; p < 5; p++) {
            Due.is("36: one each, " + p, first[p], x.plan(p));
        }
        x.wants(0, 2);
        x.wants(1, 2);
        int[] second = {2, 1, 0, 0, 0};
        for (int p = 0; p < 5; p++) {
            Due.is("36: by their order, " + p, second[p], x.plan(p));
        }
        // Person 0 would take all, person 1 wet ones alone, of which there is one: it is left to it.
        x.year(0, 1);
        x.takes(1, 2);
        int[] third = {2, 1, 0, 0, 0};
        for (int p = 0; p < 5; p++) {
            Due.is("36: what the other takes is left, " + p, third[p], x.plan(p));
        }
        x.wants(0, 3);
        int[] fourth = {3, 0, 0, 0, 0};
        for (int p = 0; p < 5; p++) {
            Due.is("36: as many as can be first, " + p, fourth[p], x.plan(p));
        }
        x.takes(0, 2);
        int[] fifth = {1, 0, 1, 1, 0};
        for (int p = 0; p < 5; p++) {
            Due.is("36: besides, " + p, fifth[p], x.plan(p));
        }
        Due.is("33: together", 3, x.able());
    }

    private static void moreThanHalf() {
        for (int persons = 0; persons <= 5; persons++) {
            TreesLendRings x = wood(1, persons);
            int most = persons / 2 + 1;
            int due = 0;
            for (int i = 0; i < most && i < persons; i++) {
                due += Math.max(0, 35 - 10 * (persons - 1 - i));
            }
            Due.is("37: of " + persons, due, x.vote(35));
            Due.is("37: of AGE 0", 0, x.vote(0));
        }
        // Exactly half isn't more than half.
        TreesLendRings x = new TreesLendRings();
        x.person(50);
        x.person(20);
        Due.is("37: one of two", 30, x.vote(50));
        x.person(50);
        Due.is("37: two of three", 0, x.vote(50));
        x.person(30);
        Due.is("37: two of four", 20, x.vote(50));
        x.person(49);
        Due.is("37: three of five", 1, x.vote(50));
        Due.is("37: an AGE or more", 0, x.vote(49));
    }

    private static void agesThatVote() {
        TreesLendRings x = wood(1, 1);
        x.lend(0, 0, 0);
        Due.is("37: AGE 1", 0, x.vote(1));
        Due.is("37: one short", 1, x.vote(2));
        Due.tell(x, "ages 99;");
        x.by(0);
        Due.is("37: AGE 99", 0, x.vote(99));
        Due.tell(x, "ages -9;");
        x.by(1);
        Due.is("37: AGE below 0", 9, x.vote(0));
        Due.is("37: the most", 108, x.vote(99));
    }

    private static void windowsOfMarks() {
        TreesLendRings x = wood(1, 1);
        for (int unlike = 0; unlike <= 10; unlike++) {
            Due.is("39: without marks", ALL, x.dated(unlike));
        }
        Due.is("40: without marks", NONE, x.nearest());
        for (int marks = 1; marks <= 10; marks++) {
            Due.is("38: marks", marks, x.mark(0));
            Due.is("39: all within 23, of " + marks, (1 << 25 - marks) - 1, x.dated(0));
            Due.is("39: nor by unlike ones", (1 << 25 - marks) - 1, x.dated(10));
            Due.is("40: the lowest", 0, x.nearest());
            Due.is("59: marks", marks, x.about(5));
        }
        Due.is("38: there are 10", -2, x.mark(0));
        Due.is("59: still 10", 10, x.about(5));
        // The last window alone is without unlike ones.
        for (int y = 0; y < 14; y++) {
            x.year(y, 1);
        }
        Due.is("39: from 14 on", 1 << 14, x.dated(0));
        Due.is("40: from 14 on", 14, x.nearest());
        Due.is("39: one unlike", 3 << 13, x.dated(1));
        x.mark(NONE);
        Due.is("38: none any more", 0, x.about(5));
        Due.is("39: none any more", ALL, x.dated(0));
        x.mark(3);
        x.year(23, 3);
        Due.is("39: year 23", 1 << 23, x.dated(0));
        Due.is("40: year 23", 23, x.nearest());
    }

    private static void unlikeMarks() {
        for (int marks = 1; marks <= 10; marks++) {
            TreesLendRings x = wood(0, 0);
            for (int i = 0; i < marks; i++) {
                x.mark(2);
            }
            for (int unlike = 0; unlike <= 10; unlike++) {
                int due = unlike < marks ? 0 : (1 << 25 - marks) - 1;
                Due.is("39: " + unlike + " of " + marks, due, x.dated(unlike));
            }
            Due.is("40: all are unlike", 0, x.nearest());
            x.year(5, 2);
            for (int unlike = 0; unlike <= 10; unlike++) {
                int due = 0;
                for (int y = 0; y + marks <= 24; y++) {
                    due |= (marks - (y <= 5 && 5 < y + marks ? 1 : 0) <= unlike ? 1 : 0) << y;
                }
                Due.is("39: but one, " + unlike + " of " + marks, due, x.dated(unlike));
            }
            Due.is("40: the lowest with year 5", Math.max(0, 6 - marks), x.nearest());
        }
    }

    private static void lowestOfLikeDates() {
        TreesLendRings x = wood(0, 0);
        x.mark(1);
        x.mark(2);
        x.year(22, 1);
        x.year(23, 2);
        Due.is("40: the only one", 22, x.nearest());
        x.year(21, 2);
        x.year(20, 1);
        Due.is("40: the lower one", 20, x.nearest());
        x.year(0, 1);
        Due.is("40: but not with an unlike one", 20, x.nearest());
        x.year(1, 2);
        Due.is("40: the lowest", 0, x.nearest());
        // A mark that would be at year 24 isn't there.
        x.year(0, 0);
        x.year(1, 0);
        x.year(20, 0);
        x.year(21, 0);
        x.year(22, 0);
        x.year(23, 1);
        Due.is("40: it can't be from 23 on", 0, x.nearest());
        Due.is("39: nor by one unlike", 0, x.dated(1) >> 23);
    }

    // ==== IV.

    private static void longestRuns() {
        for (int from = 0; from < 24; from++) {
            for (int to = from; to < 24; to++) {
                TreesLendRings x = new TreesLendRings();
                x.oak((1 << to + 1) - (1 << from));
                Due.is("41: from " + from + " to " + to, to - from + 1, x.run(0, false));
                Due.is("41: from", from, x.run(0, true));
            }
        }
        TreesLendRings x = new TreesLendRings();
        x.oak(0b101010101010101010101010);
        x.oak(0b010101010101010101010101);
        x.oak(0b110000000000000000000011);
        x.oak(0b111000000000000000000011);
        x.oak(0);
        int[] longest = {1, 1, 2, 3, 0};
        int[] first = {1, 0, 0, 21, NONE};
        for (int o = 0; o < 5; o++) {
            Due.is("41: how many", longest[o], x.run(o, false));
            Due.is("41: the earliest", first[o], x.run(o, true));
        }
        Due.is("42: unlike in all", 0, x.alike(0, 1));
        Due.is("42: alike in all but one", 23, x.alike(2, 3));
        Due.is("42: neither has one", 20, x.alike(2, 4));
        for (int o = 0; o < 5; o++) {
            Due.is("42: itself", 24, x.alike(o, o));
        }
    }

    private static void standsJustSo() {
        TreesLendRings x = wood(2, 1);
        for (int lent = 0; lent <= 3; lent++) {
            for (int n = 0; n <= 24; n++) {
                int missing = n - (24 - lent);
                long upper = missing <= 0 ? 1 : 0;
                long lower = 1;
                int[][] byOne = {{7, 10}};
                int[][] byTwo = {{91, 100}, {49, 100}};
                int[][] byThree = {{973, 1000}, {784, 1000}, {343, 1000}};
                int[][] ways = lent == 1 ? byOne : lent == 2 ? byTwo : byThree;
                if (missing > 0) {
                    long by = lowest(ways[missing - 1][0], ways[missing - 1][1]);
                    upper = ways[missing - 1][0] / by;
                    lower = ways[missing - 1][1] / by;
                }
                Due.is("43: " + n + " with " + lent + " lent", upper, x.stands(0, n, false));
                Due.is("43: of, " + n + " with " + lent + " lent", lower, x.stands(0, n, true));
                Due.is("43: of the other", 1, x.stands(1, n, false));
            }
            x.lend(0, lent * 7, 0);
        }
    }

    private static long lowest(long a, long b) {
        return b == 0 ? a : lowest(b, a % b);
    }

    /** Of an oak 15 can be lent at most, as it keeps 9; what other oaks have lent is aside. */
    private static void fifteenLent() {
        TreesLendRings x = wood(5, 5);
        for (int o = 0; o < 5; o++) {
            for (int y = 0; y < 15; y++) {
                Due.yes("10: fifteen", x.lend(o, y, o));
            }
            Due.no("10: not sixteen", x.lend(o, 15, o));
            Due.is("18: fifteen", 15, x.ofOak(o, 2));
        }
        for (int o = 0; o < 5; o++) {
            Due.is("43: all fifteen are back", 4747561509943L, x.stands(o, 24, false));
            Due.is("43: of", 1000000000000000L, x.stands(o, 24, true));
            Due.is("43: one at least", 999999985651093L, x.stands(o, 10, false));
            Due.is("43: the nine", 1, x.stands(o, 9, false));
            Due.is("43: the nine, of", 1, x.stands(o, 9, true));
        }
        Due.is("44: 75 by three of ten", 45, x.expects(false));
        Due.is("44: of", 2, x.expects(true));
        for (int pays = 0; pays <= 10; pays += 10) {
            x.by(Due.tell(x, "pays " + pays + ";"));
            for (int n = 0; n <= 24; n++) {
                Due.is("43: surely, by " + pays, n <= 9 || pays == 10 ? 1 : 0, x.stands(2, n, false));
                Due.is("43: surely, of", 1, x.stands(2, n, true));
            }
        }
    }

    private static void standsByPays() {
        for (int pays = 0; pays <= 10; pays++) {
            TreesLendRings x = wood(1, 1);
            Due.tell(x, "pays " + pays + ";");
            x.by(0);
            x.lend(0, 5, 0);
            long by = lowest(pays, 10);
            Due.is("43: by " + pays, pays / by, x.stands(0, 24, false));
            Due.is("43: by, of " + pays, 10 / by, x.stands(0, 24, true));
            long cut = lowest(10 - pays, 10);
            Due.is("44: by " + pays, (10 - pays) / cut, x.expects(false));
            Due.is("44: by, of " + pays, 10 / cut, x.expects(true));
        }
        // As now: neither DAY nor HELD are those of MIDSUMMER.
        TreesLendRings x = wood(1, 1);
        Due.tell(x, "pays held+day;");
        x.by(0);
        x.lend(0, 0, 0);
        x.lend(0, 1, 0);
        x.lend(0, 2, 0);
        x.day(2);
        Due.is("43: three held, DAY 2", 1, x.stands(0, 24, false));
        Due.is("43: a half thrice", 8, x.stands(0, 24, true));
        Due.is("44: three halves", 3, x.expects(false));
        Due.is("44: three halves, of", 2, x.expects(true));
    }

    private static void expectedOfAll() {
        TreesLendRings x = wood(5, 5);
        int tenths = 0;
        for (int i = 0; i < 25; i++) {
            long by = lowest(tenths, 10);
            Due.is("44: " + tenths + " tenths", tenths / by, x.expects(false));
            Due.is("44: of, " + tenths + " tenths", 10 / by, x.expects(true));
            x.lend(i % 5, i / 5, i % 3);
            tenths += 3;
        }
    }

    private static void owedByPrices() {
        TreesLendRings x = wood(5, 2);
        for (int kind = 0; kind < 4; kind++) {
            x.year(kind, kind);
            for (int o = 0; o < 5; o++) {
                x.lend(o, kind, 0);
            }
        }
        Due.is("45: at first 10 each", 200, x.owed(0));
        for (int kind = 0; kind < 4; kind++) {
            Due.yes("46: the most", x.price(kind, 99));
            Due.is("45: five by 99", 5 * 99 + 150, x.owed(0));
            Due.yes("46: the least", x.price(kind, 0));
            Due.is("45: five by 0", 150, x.owed(0));
            x.price(kind, 10);
        }
        Due.is("45: nothing", 0, x.owed(1));
    }

    private static void nineAtMost() {
        int[] places = {1, 10, 100, 1000};
        for (int kind = 0; kind < 4; kind++) {
            for (int spare = 0; spare <= 10; spare++) {
                TreesLendRings x = new TreesLendRings();
                x.oak((1 << 9 + spare) - 1);
                x.person(0);
                for (int y = 0; y < 24; y++) {
                    x.year(y, kind);
                }
                x.price(kind, 99);
                for (int n = 1; n <= 9; n++) {
                    Due.is("47: " + n + " of " + spare, n <= spare ? n * places[kind] : NONE, x.cheapest(0, n, false));
                    Due.is("47: by 99", n <= spare ? n * 99 : NONE, x.cheapest(0, n, true));
                }
                x.takes(0, 15 - (1 << kind));
                Due.is("47: it takes others alone", NONE, x.cheapest(0, 1, false));
                x.takes(0, 1 << kind);
                Due.is("47: it takes these alone", spare > 0 ? places[kind] : NONE, x.cheapest(0, 1, false));
            }
        }
    }

    /** Of like prices the fewest of 3, then of 2, then of 1. */
    private static void likeBaskets() {
        TreesLendRings x = new TreesLendRings();
        x.oak(ALL);
        x.person(0);
        for (int kind = 1; kind < 4; kind++) {
            x.year(kind * 2, kind);
            x.year(kind * 2 + 1, kind);
        }
        // With plain ones enough, none else are taken; without, the two wet ones, then the two dry ones, then those of fire.
        Due.is("47: plain ones", 9, x.cheapest(0, 9, false));
        x.takes(0, 14);
        Due.is("47: two wet ones", 20, x.cheapest(0, 2, false));
        Due.is("47: then a dry one", 120, x.cheapest(0, 3, false));
        Due.is("47: then both", 220, x.cheapest(0, 4, false));
        Due.is("47: then one of fire", 1220, x.cheapest(0, 5, false));
        Due.is("47: then both", 2220, x.cheapest(0, 6, false));
        Due.is("47: not so many", NONE, x.cheapest(0, 7, false));
        // Dearer by one, a wet one isn't taken for a dry one.
        x.price(1, 11);
        Due.is("47: cheaper dry ones", 200, x.cheapest(0, 2, false));
        Due.is("47: of fire rather than dearer", 1200, x.cheapest(0, 3, false));
        Due.is("47: price together", 30, x.cheapest(0, 3, true));
        x.price(3, 12);
        Due.is("47: now rather wet", 210, x.cheapest(0, 3, false));
        Due.is("47: price together", 31, x.cheapest(0, 3, true));
        // One of 1 and one of 3 cost what two of 2 do: the fewest of 3 are taken.
        x.price(1, 9);
        x.price(2, 10);
        x.price(3, 11);
        Due.is("47: two wet ones are cheapest", 20, x.cheapest(0, 2, false));
        x.takes(0, 12);
        Due.is("47: two dry ones", 200, x.cheapest(0, 2, false));
        x.takes(0, 15);
        x.price(0, 10);
        x.price(1, 10);
        x.price(2, 10);
        x.price(3, 10);
        Due.is("47: all alike: plain ones", 4, x.cheapest(0, 4, false));
    }

    private static void cheapFromBareOaks() {
        TreesLendRings x = new TreesLendRings();
        x.oak(0x3ff);
        x.oak(0x3ff000);
        x.oak(0x1ff);
        x.person(0);
        x.year(0, 1);
        x.year(12, 1);
        x.year(13, 1);
        x.price(1, 0);
        Due.is("47: one of each with ten", 20, x.cheapest(0, 2, false));
        Due.is("47: none of those with nine", NONE, x.cheapest(0, 3, false));
        x.lend(0, 5, 0);
        Due.is("47: nine are left", 10, x.cheapest(0, 1, false));
        Due.is("47: not so many", NONE, x.cheapest(0, 2, false));
        x.lend(1, 20, 0);
        Due.is("47: none any more", NONE, x.cheapest(0, 1, false));
        Due.is("33: none any more", 0, x.able());
    }

    private static void eightSaid() {
        TreesLendRings x = wood(1, 5);
        Due.tell(x, "ages 1;");
        for (int i = 1; i <= 8; i++) {
            Due.is("48: how many", i, x.said(i % 5, 10 * (i % 5)));
            Due.is("59: how many", i, x.about(6));
            Due.is("49: so", 1, x.whose());
        }
        Due.is("48: there are 8", -2, x.said(0, 5));
        Due.is("49: it isn't there", 1, x.whose());
        Due.is("48: none any more", 0, x.said(NONE, 0));
        for (int i = 1; i <= 7; i++) {
            x.said(0, 0);
        }
        Due.is("48: the eighth", 8, x.said(1, 11));
        Due.is("49: not so", 0, x.whose());
        x.said(NONE, 0);
        x.said(4, 9999);
        Due.is("49: not so", 0, x.whose());
        x.said(NONE, 0);
        Due.is("48: nobody's", 0, x.about(6));
        Due.is("49: all", 1, x.whose());
    }

    private static void saidByWithout() {
        TreesLendRings x = wood(1, 1);
        String[] texts = {"", "lends 1; pays 2;", "ages 1;", "ages 2;"};
        for (int i = 0; i < 4; i++) {
            Due.is("49: of as many texts", (1 << i) - 1, x.whose());
            Due.tell(x, texts[i]);
        }
        x.lend(0, 0, 0);
        x.said(0, 1);
        Due.is("49: 1 without", 7, x.whose());
        x.year(0, 1);
        Due.is("49: 2 without, of the wet", 4, x.whose());
        x.said(NONE, 0);
        x.said(0, 2);
        Due.is("49: 2 without, of the wet", 11, x.whose());
        x.year(0, 2);
        Due.is("49: 0 without, of the dry", 8, x.whose());
        x.year(0, 3);
        x.said(NONE, 0);
        x.said(0, 1);
        for (int ruling = NONE; ruling < 4; ruling++) {
            x.by(ruling);
            Due.is("49: whichever rules", 7, x.whose());
        }
    }

    private static void eldestOfLikeOnes() {
        for (int who = 0; who < 5; who++) {
            TreesLendRings x = new TreesLendRings();
            for (int p = 0; p < 5; p++) {
                x.person(p < who ? 7 : 8);
            }
            Due.is("50: of like ones the lowest", who, x.eldest());
        }
        TreesLendRings x = wood(1, 0);
        Due.is("50: none", NONE, x.eldest());
        x.person(0);
        x.person(0);
        Due.tell(x, "ages -9;");
        x.by(0);
        x.lend(0, 0, 0);
        Due.is("50: of 0 and less", 1, x.eldest());
        x.lend(0, 1, 1);
        Due.is("50: less, alike", 0, x.eldest());
        x.lend(0, 2, 0);
        Due.is("50: the less", 1, x.eldest());
    }

    private static void barestOfLikeOnes() {
        for (int which = 0; which < 5; which++) {
            TreesLendRings x = new TreesLendRings();
            for (int o = 0; o < 5; o++) {
                x.oak(o < which ? 0xfff : 0x7ff);
            }
            Due.is("54: of like ones the lowest", which, x.bare());
            Due.is("53: none", 0, x.fenced());
            Due.is("51: all", 31, x.left(10));
            Due.is("51: those before", (1 << which) - 1, x.left(11));
            Due.is("51: none", 0, x.left(12));
            Due.is("52: together", 55 + which, x.count(0));
        }
        TreesLendRings x = new TreesLendRings();
        Due.is("54: none", NONE, x.bare());
        x.oak(0);
        Due.is("54: one without rings", 0, x.bare());
        Due.is("53: it is fenced", 1, x.fenced());
    }

    private static void ledgerAtItsFull() {
        TreesLendRings x = wood(5, 5);
        Due.tell(x, "pays 0;");
        x.by(0);
        for (int o = 0; o < 5; o++) {
            for (int y = 0; y < 7; y++) {
                x.lend(o, y, o);
            }
        }
        Due.is("56: nothing yet", 0, x.ledger(NONE));
        Due.is("13: cut", 35, x.day(30));
        Due.is("56: the latest 30", 30, x.ledger(NONE));
        int[] due = {2, 7, 7, 7, 7};
        for (int p = 0; p < 5; p++) {
            Due.is("56: of " + p, due[p], x.ledger(p));
        }
        Due.is("23: CUTS are all", 35, x.is(1));
    }

    // ==== V.

    private static void imageOfTheFull() {
        TreesLendRings x = wood(5, 5);
        for (int i = 0; i < 4; i++) {
            Due.tell(x, "ages " + (i + 1) + ";");
        }
        x.by(3);
        for (int i = 0; i < 10; i++) {
            x.mark(i % 4);
        }
        for (int i = 0; i < 8; i++) {
            x.said(i % 5, i);
        }
        x.lend(0, 0, 4);
        x.day(59);
        x.lend(1, 1, 4);
        Due.is("57: DAY", 59, x.image());
        x.by(NONE);
        x.mark(NONE);
        x.said(NONE, 0);
        for (int i = 0; i < 40; i++) {
            x.winters(i, 3);
        }
        Due.is("58: DAY", 59, x.back());
        int[] about = {5, 5, 4, 3, 30, 10, 8, 0};
        for (int i = 0; i < about.length; i++) {
            Due.is("58: about(" + i + ")", about[i], x.about(i));
        }
        Due.is("58: by the fourth", 4, x.of(4, 1) - 40);
        for (int i = 29; i >= 0; i--) {
            Due.is("58: STEPS", i, x.undo());
            Due.is("58: DAY of the STEP", i + 30, x.is(0));
        }
        Due.is("58: no more", NONE, x.undo());
        Due.is("58: it stays", 59, x.back());
        Due.is("58: STEPS again", 30, x.about(4));
        Due.is("58: and again", 59, x.back());
    }

    private static void imageKeepsNeitherTapeNorFault() {
        TreesLendRings x = new TreesLendRings();
        Due.tell(x, "ages 1");
        Due.put(x, "day 1;");
        x.image();
        Due.is("57: the FAULT stays", 1, x.fault(0));
        Due.is("57: the tape stays", 6, x.about(7));
        Due.put(x, "day 1;  ");
        x.back();
        Due.is("58: the tape as it is", 8, x.about(7));
        Due.is("58: the FAULT as it is", 6, x.fault(1));
        Due.is("7: of the tape as it is", 0, x.text());
        x.back();
        Due.is("58: no TEXT", 0, x.about(2));
        Due.is("58: no FAULT, as it is", 0, x.fault(0));
        Due.is("58: no tape, as it is", 0, x.about(7));
        Due.is("14: no TEXT", -2, x.played(0));
        Due.is("7: the first again", 0, x.text());
    }
}
