/** Each promise by hand: ordinary calls, the edges that the document names, and wrong ones. Texts: LanguageTest. */
public final class PromisesTest {
    private static final int NONE = TreesLendRings.NONE;
    private static final int MIN = Integer.MIN_VALUE;
    private static final int MAX = Integer.MAX_VALUE;
    private static final int ALL = 0xffffff;

    public static void main(String[] args) {
        newObject();
        told();
        tape();
        ruling();
        lent();
        back();
        passedOn();
        days();
        midsummer();
        lastDays();
        playing();
        winters();
        wintersOfNone();
        undoing();
        undoingTheEldest();
        ofPersons();
        ofOaks();
        rings();
        laws();
        book();
        foretold();
        kinship();
        yearsOfPersons();
        wanted();
        takenKinds();
        inTheWay();
        votes();
        marks();
        runs();
        standing();
        expected();
        prices();
        cheapest();
        said();
        eldest();
        oaksAndKinds();
        ledger();
        image();
        about();
        Due.finish();
    }

    /** Oak 0 whole, oak 1 of years 0 .. 11, oak 2 of 12 .. 23; persons of 10, 20, 30; year 1 wet, 2 dry, 3 of fire. */
    private static TreesLendRings wood() {
        TreesLendRings x = new TreesLendRings();
        x.oak(ALL);
        x.oak(0xfff);
        x.oak(0xfff000);
        x.person(10);
        x.person(20);
        x.person(30);
        x.year(1, 1);
        x.year(2, 2);
        x.year(3, 3);
        return x;
    }

    private static void newObject() {
        TreesLendRings x = new TreesLendRings();
        int[] fresh = {0, 0, 0, NONE, 0, 0, 0, 0};
        for (int i = 0; i < fresh.length; i++) {
            Due.is("1: about(" + i + ")", fresh[i], x.about(i));
        }
        Due.is("1: DAY", 0, x.is(0));
        Due.is("1: CUTS", 0, x.is(1));
        Due.is("1: X", 257, x.is(2));
        Due.is("1: kind", 0, x.kindOf(23));
        x.oak(1);
        x.person(1);
        x.day(3);
        Due.is("1: back to the first image", 0, x.back());
        Due.is("1: no oak then", 0, x.about(0));
        Due.is("1: no person then", 0, x.about(1));
        Due.is("1: no step then", 0, x.about(4));
        Due.is("1: NONE", -1, NONE);
    }

    private static void told() {
        TreesLendRings x = new TreesLendRings();
        Due.is("2: below", NONE, x.oak(-1));
        Due.is("2: above", NONE, x.oak(1 << 24));
        Due.is("2: least", NONE, x.oak(MIN));
        Due.is("2: first", 0, x.oak(0));
        Due.is("2: second", 1, x.oak(ALL));
        Due.is("2: its rings", 24, x.ofOak(1, 0));
        Due.is("2: no rings", 0, x.ofOak(0, 0));
        x.oak(1);
        x.oak(1);
        Due.is("2: fifth", 4, x.oak(2));
        Due.is("2: sixth", NONE, x.oak(2));
        Due.is("2: five are told", 5, x.about(0));

        Due.yes("3: year", x.year(0, 3));
        Due.yes("3: last year", x.year(23, 2));
        Due.yes("3: again", x.year(0, 1));
        Due.no("3: no year", x.year(24, 0));
        Due.no("3: below", x.year(-1, 0));
        Due.no("3: no kind", x.year(1, 4));
        Due.no("3: kind below", x.year(1, -1));
        Due.is("22: told again", 1, x.kindOf(0));
        Due.is("22: last", 2, x.kindOf(23));
        Due.is("22: at first", 0, x.kindOf(1));
        Due.is("22: none", NONE, x.kindOf(24));
        Due.is("22: below", NONE, x.kindOf(-1));
        Due.is("22: far", NONE, x.kindOf(MAX));

        Due.is("4: below", NONE, x.person(-1));
        Due.is("4: above", NONE, x.person(100));
        Due.is("4: first", 0, x.person(0));
        Due.is("4: second", 1, x.person(99));
        x.person(1);
        x.person(1);
        Due.is("4: fifth", 4, x.person(1));
        Due.is("4: sixth", NONE, x.person(1));
        Due.is("4: own", 99, x.of(1, 0));
    }

    private static void tape() {
        TreesLendRings x = new TreesLendRings();
        Due.is("5: first", 20, x.feed(0x6c656e64, 0x73203730, 0x3b202020, 0x20202020, -1));
        Due.is("7: a byte of 255", NONE, x.text());
        Due.is("8: can't stand", 1, x.fault(0));
        Due.is("8: at its place", 16, x.fault(1));
        Due.is("7: the tape is empty behind a fault", 0, x.about(7));
        for (int i = 1; i <= 15; i++) {
            Due.is("5: feed " + i, i * 20, x.feed(0x20202020, 0x0a202020, 0x20202020, 0x20202020, 0x2020200a));
        }
        Due.is("5: full", NONE, x.feed(0x20202020, 0, 0, 0, 0));
        Due.is("5: none came", 300, x.about(7));
        Due.is("6: more than there are", NONE, x.end(301));
        Due.is("6: below", NONE, x.end(-1));
        Due.is("6: nothing is done", 300, x.about(7));
        Due.is("6: all", 300, x.end(300));
        Due.is("6: fewer", 281, x.end(281));
        Due.is("5: still too full", NONE, x.feed(0, 0, 0, 0, 0));
        Due.is("6: one fewer", 280, x.end(280));
        Due.is("5: just so", 300, x.feed(0x20202020, 0x20202020, 0x20202020, 0x20202020, 0x2020200a));
        Due.is("7: blanks alone", 0, x.text());
        Due.is("7: the tape is empty", 0, x.about(7));
        Due.is("8: no fault", 0, x.fault(0));
        Due.is("8: no place", NONE, x.fault(1));
        Due.is("7: nothing is a text", 1, x.text());
        Due.is("7: third", 2, Due.tell(x, "ages 2;"));
        Due.is("7: fault", NONE, Due.tell(x, "ages ;"));
        Due.is("7: fourth", 3, Due.tell(x, "day 1;"));
        Due.put(x, "day 0;");
        Due.is("7: there are 4", NONE, x.text());
        Due.is("7: the tape stays", 6, x.about(7));
        Due.is("8: it was not read", 0, x.fault(0));
        Due.is("8: others", NONE, x.fault(2));
        Due.is("8: others below", NONE, x.fault(-1));
        TreesLendRings y = new TreesLendRings();
        Due.is("8: ahead of any", NONE, y.fault(0));
        Due.is("8: no place ahead of any", NONE, y.fault(1));
    }

    private static void ruling() {
        TreesLendRings x = wood();
        Due.tell(x, "ages 5; lends 0; pays 10;");
        Due.no("9: not told", x.by(1));
        Due.no("9: below none", x.by(-2));
        Due.is("9: a text doesn't rule by being told", NONE, x.about(3));
        Due.yes("9: told", x.by(0));
        Due.is("9: rules", 0, x.about(3));
        Due.is("20: says", 0, x.lends(0, 0, 0));
        Due.no("10: lends says 0", x.lend(0, 0, 0));
        Due.yes("9: none", x.by(NONE));
        Due.is("9: none rules", NONE, x.about(3));
        Due.yes("10: without a text", x.lend(0, 0, 0));
        Due.no("9: others leave it", x.by(7));
        x.by(0);
        Due.is("17: by the text", 15, x.of(0, 1));
    }

    private static void lent() {
        TreesLendRings x = wood();
        Due.yes("10: lent", x.lend(0, 23, 2));
        Due.is("10: with it", 2, x.ring(0, 23));
        Due.no("10: isn't in its oak", x.lend(0, 23, 1));
        Due.no("10: never there", x.lend(1, 12, 0));
        Due.no("10: no year", x.lend(0, 24, 0));
        Due.no("10: year below", x.lend(0, -1, 0));
        Due.no("10: no oak", x.lend(3, 0, 0));
        Due.no("10: oak below", x.lend(-1, 0, 0));
        Due.no("10: no person", x.lend(0, 0, 3));
        Due.no("10: person below", x.lend(0, 0, -1));
        Due.is("10: one step alone", 1, x.about(4));
        Due.yes("10: of twelve", x.lend(1, 0, 0));
        Due.yes("10: of eleven", x.lend(1, 1, 0));
        Due.yes("10: of ten", x.lend(1, 2, 0));
        Due.no("10: fenced", x.lend(1, 3, 0));
        Due.is("18: fenced", 1, x.ofOak(1, 4));
        Due.tell(x, "lends -1;");
        x.by(0);
        Due.no("10: below 0", x.lend(0, 0, 0));
    }

    private static void back() {
        TreesLendRings x = wood();
        Due.no("11: in its oak", x.returned(0, 0));
        x.lend(0, 0, 1);
        Due.no("11: another year", x.returned(0, 1));
        Due.no("11: another oak", x.returned(1, 0));
        Due.no("11: no oak", x.returned(3, 0));
        Due.no("11: no year", x.returned(0, 24));
        Due.no("11: below", x.returned(-1, -1));
        Due.yes("11: back", x.returned(0, 0));
        Due.is("11: in its oak again", NONE, x.ring(0, 0));
        Due.no("11: not twice", x.returned(0, 0));
        Due.is("11: steps", 2, x.about(4));
    }

    private static void passedOn() {
        TreesLendRings x = wood();
        Due.no("12: in its oak", x.pass(0, 0, 1));
        x.lend(0, 0, 1);
        Due.no("12: to itself", x.pass(0, 0, 1));
        Due.no("12: no person", x.pass(0, 0, 3));
        Due.no("12: person below", x.pass(0, 0, -1));
        Due.no("12: no oak", x.pass(5, 0, 0));
        Due.no("12: no year", x.pass(0, 24, 0));
        Due.no("12: never there", x.pass(1, 20, 0));
        Due.yes("12: passed on", x.pass(0, 0, 2));
        Due.is("12: with it", 2, x.ring(0, 0));
        Due.is("12: no more with the other", 0, x.of(1, 2));
        Due.is("12: steps", 2, x.about(4));
        Due.tell(x, "lends who;");
        x.by(0);
        Due.no("12: lends says 0 for that one", x.pass(0, 0, 0));
        Due.yes("12: lends says 1 for that one", x.pass(0, 0, 1));
        // A ring of a fenced oak can be passed on.
        TreesLendRings y = wood();
        y.lend(1, 0, 0);
        y.lend(1, 1, 0);
        y.lend(1, 2, 0);
        Due.yes("12: of a fenced oak", y.pass(1, 0, 1));
    }

    private static void days() {
        TreesLendRings x = wood();
        Due.is("13: no day", NONE, x.day(0));
        Due.is("13: below", NONE, x.day(-1));
        Due.is("13: too many", NONE, x.day(61));
        Due.is("13: nothing is done", 0, x.is(0));
        Due.is("13: days", 0, x.day(29));
        Due.is("23: days till midsummer", 1, x.is(3));
        Due.is("13: sixty", 0, x.day(60));
        Due.is("23: DAY", 89, x.is(0));
        x.day(1);
        Due.is("23: at midsummer", 30, x.is(3));
        Due.is("23: others", -2, x.is(4));
        Due.is("23: others below", -2, x.is(-1));
        Due.is("23: no draw without rings lent", 257, x.is(2));
    }

    /** X is 257, 5870, 14058, 18233, 14706, 4006, ..: the draws by 10 are 7, 0, 8, 3, 6, 6. */
    private static void midsummer() {
        TreesLendRings x = wood();
        x.lend(1, 0, 0);
        x.lend(0, 5, 1);
        x.lend(0, 4, 2);
        x.lend(2, 23, 0);
        Due.is("13: cut", 2, x.day(60));
        Due.is("13: first of oak 0: 7 isn't below 7", 9, x.ring(0, 4));
        Due.is("13: then its next: 0 is", NONE, x.ring(0, 5));
        Due.is("13: then oak 1: 8 isn't", 9, x.ring(1, 0));
        Due.is("13: then oak 2: 3 is", NONE, x.ring(2, 23));
        Due.is("23: X", 14706, x.is(2));
        Due.is("23: CUTS", 2, x.is(1));
        Due.is("18: cut", 1, x.ofOak(0, 3));
        Due.no("10: a ring that is cut", x.lend(0, 4, 0));
        Due.no("11: a ring that is cut", x.returned(0, 4));
        Due.no("12: a ring that is cut", x.pass(0, 4, 0));
        // Each is judged as all is then: held is less behind each ring, left is more behind each that is back.
        TreesLendRings y = wood();
        Due.tell(y, "pays if held = 3 then 0 else if held = 2 then 10 else left - 22 end end;");
        y.by(0);
        y.lend(0, 6, 1);
        y.lend(0, 7, 1);
        y.lend(0, 8, 1);
        Due.is("13: as all is then", 2, y.day(30));
        Due.is("13: held 3", 9, y.ring(0, 6));
        Due.is("13: held 2", NONE, y.ring(0, 7));
        Due.is("13: left 22: 8 isn't below 0", 9, y.ring(0, 8));
        // DAY is already that of midsummer.
        TreesLendRings z = wood();
        Due.tell(z, "pays if day = 30 then 10 else 0 end;");
        z.by(0);
        z.lend(0, 6, 1);
        Due.is("13: DAY in pays", 0, z.day(30));
    }

    private static void lastDays() {
        TreesLendRings x = wood();
        for (int i = 0; i < 166; i++) {
            x.day(60);
        }
        Due.is("23: DAY", 9960, x.is(0));
        Due.is("13: beyond", NONE, x.day(40));
        Due.is("13: nothing is done", 9960, x.is(0));
        x.lend(0, 0, 0);
        Due.is("15: all 30 can pass", 9990, x.winters(0, 1));
        Due.is("15: they can't", 9990, x.winters(0, 1));
        x.lend(0, 0, 0);
        Due.tell(x, "ages day-9980;");
        x.by(0);
        Due.is("25: those that can pass", 10 + 19, x.foretold(60, 1, 0));
        Due.is("25: fewer", 10 + 18, x.foretold(8, 1, 0));
        Due.tell(x, "day 9;");
        Due.is("14: all days can pass", NONE, x.played(1));
        Due.is("14: to the last", 9999, x.is(0));
        for (int i = 0; i < 9; i++) {
            x.undo();
        }
        x.undo();
        Due.tell(x, "day 8; day 2; person 1;");
        Due.is("14: those that can pass do, and it ends", 1, x.played(2));
        Due.is("23: last DAY", 9999, x.is(0));
        Due.is("14: nothing behind it", 3, x.about(1));
        Due.is("13: none can pass", NONE, x.day(1));
        Due.is("14: none can pass", 0, x.played(2));
        Due.is("25: none can pass", 20, x.foretold(5, 1, 1));
        Due.is("16: each DAY a step", 28, x.undo());
        Due.is("23: a DAY ahead", 9998, x.is(0));
        Due.is("13: just so", 0, x.day(1));
        TreesLendRings y = wood();
        for (int i = 0; i < 166; i++) {
            y.day(60);
        }
        y.day(9);
        Due.is("15: thirty days to the last", 9999, y.winters(0, 1));
        y.undo();
        y.lend(2, 20, 2);
        y.day(21);
        Due.is("24: a late DAY", 9990, y.book(0, 0));
        Due.is("24: its PERSON", 2, y.book(0, 1));
        Due.is("24: its OAK", 2, y.book(0, 2));
        Due.is("24: its YEAR", 20, y.book(0, 3));
    }

    private static void playing() {
        TreesLendRings x = new TreesLendRings();
        Due.is("14: not told", -2, x.played(0));
        Due.tell(x, "oak 0,1,2,3,4,5,6,7,8,9,23; lends 1; year 5 is 3; person 7; person 8; lend 23 of 0 to 1;"
            + "ages 2; pass 23 of 0 to 0; day 3; back 23 of 0; pays 3;");
        Due.is("14: all is done", NONE, x.played(0));
        Due.is("14: oak", 0x8003ff, x.ofOak(0, 1));
        Due.is("14: year", 3, x.kindOf(5));
        Due.is("14: persons", 2, x.about(1));
        Due.is("14: own", 8, x.of(1, 0));
        Due.is("14: days", 3, x.is(0));
        Due.is("14: steps as by hand", 6, x.about(4));
        Due.is("14: its laws don't rule", NONE, x.about(3));
        x.undo();
        Due.is("14: the ring was passed on", 0, x.ring(0, 23));
        x.undo();
        x.undo();
        x.undo();
        x.undo();
        Due.is("14: the ring was lent", 1, x.ring(0, 23));
        Due.tell(x, "pays 1; person 5; lend 24 of 0 to 0;");
        Due.is("8: no such text", 2, x.fault(0));
        Due.tell(x, "pays 1; person 5; lend 20 of 0 to 0; person 6;");
        Due.is("14: number among all clauses", 2, x.played(1));
        Due.is("14: what was done stays", 3, x.about(1));
        TreesLendRings y = wood();
        Due.tell(y, "lend 7 of 1 to 2; lend 20 of 2 to 1; back 7 of 1; pass 20 of 2 to 0;");
        Due.is("14: of other oaks", NONE, y.played(0));
        Due.is("14: lent and back", NONE, y.ring(1, 7));
        Due.is("14: lent and passed on", 0, y.ring(2, 20));
        y.undo();
        y.undo();
        Due.is("14: lent to 2", 2, y.ring(1, 7));
        Due.tell(x, "oak 1; oak 2; oak 3; oak 4; oak 5;");
        Due.is("14: the sixth oak", 4, x.played(2));
        Due.is("14: again", 0, x.played(2));
        Due.tell(x, "person 1; person 1; person 1;");
        Due.is("14: the sixth person", 2, x.played(3));
        Due.is("14: others", -2, x.played(4));
        Due.is("14: below", -2, x.played(-1));
    }

    private static void winters() {
        TreesLendRings x = wood();
        Due.is("15: seed below", NONE, x.winters(-1, 1));
        Due.is("15: seed above", NONE, x.winters(10000, 1));
        Due.is("15: no times", NONE, x.winters(1, 0));
        Due.is("15: too often", NONE, x.winters(1, 41));
        Due.is("15: nothing is done", 0, x.about(4));
        // Seed 2: x is 261, 3 mod 6: nothing to bring back; X is (261 * 499 + 383) mod 30689.
        Due.is("15: DAY", 0, x.winters(2, 1));
        Due.is("15: X", 7866, x.is(2));
        Due.is("15: a step even so", 1, x.about(4));
        // Seed 1: x is 259, 1 mod 6: oak 259 mod 3 = 1, year 43 mod 24 = 19, that was never there.
        x.winters(1, 1);
        Due.is("15: never there", 0, x.of(1, 2));
        // Seed 504: x is 1265, 5 mod 6.
        Due.is("15: thirty days", 30, x.winters(504, 1));
        // Seed 16: x is 289, 1 mod 6: oak 1, year 48 mod 24 = 0, person 1.
        Due.is("15: lent", 30, x.winters(16, 1));
        Due.is("15: to 289 mod 3", 1, x.ring(1, 0));
        Due.is("15: four steps", 4, x.about(4));
        x.undo();
        Due.is("16: the ring is back", NONE, x.ring(1, 0));
        Due.is("16: X is as ahead of winters", (1265 * 499 + 383) % 30689, x.is(2));
        x.undo();
        Due.is("16: DAY is as ahead of winters", 0, x.is(0));
        // Seed 119: x is 495, 3 mod 6, year 82 mod 24 = 10; then 1876, 4 mod 6, year 312 mod 24 = 0, to 375 mod 2.
        TreesLendRings y = new TreesLendRings();
        y.oak(ALL);
        y.person(1);
        y.person(2);
        y.lend(0, 10, 1);
        y.lend(0, 0, 0);
        Due.is("15: twice", 0, y.winters(119, 2));
        Due.is("15: back", NONE, y.ring(0, 10));
        Due.is("15: passed on", 1, y.ring(0, 0));
        Due.is("15: X behind both", 15837, y.is(2));
        Due.is("15: one step", 3, y.about(4));
        Due.is("15: greatest seed, most times", 0, Math.min(0, y.winters(9999, 40)));
        // Seed 125: x is 507, then 7864, 4 mod 6, year 1310 mod 24 = 14, to 1572 mod 3.
        TreesLendRings v = wood();
        TreesLendRings one = new TreesLendRings();
        one.oak(ALL);
        one.person(1);
        one.winters(16, 1);
        Due.is("15: to the only person", 0, one.ring(0, 0));
        v.lend(2, 14, 2);
        v.lend(1, 2, 2);
        v.lend(0, 14, 2);
        v.winters(125, 2);
        Due.is("15: of oak 7864 mod 3 alone", 2, v.ring(2, 14));
        TreesLendRings w = new TreesLendRings();
        w.oak(ALL);
        w.person(1);
        w.person(2);
        w.person(3);
        w.lend(0, 14, 2);
        w.winters(125, 2);
        Due.is("15: passed on to 1572 mod 3", 0, w.ring(0, 14));
        // Midsummer within winters draws by the same X: 257 lets days pass, then 5870 mod 10 = 0 is below 7.
        TreesLendRings z = new TreesLendRings();
        z.oak(ALL);
        z.person(1);
        z.lend(0, 3, 0);
        z.lend(0, 4, 0);
        Due.is("15: to midsummer", 30, z.winters(0, 1));
        Due.is("15: back at midsummer", NONE, z.ring(0, 3));
        Due.is("15: cut at midsummer", 9, z.ring(0, 4));
        Due.is("15: X behind the draws", 18233, z.is(2));
        Due.is("15: written down", 30, z.book(0, 0));
    }

    private static void wintersOfNone() {
        TreesLendRings x = new TreesLendRings();
        // Six of forty are 5 mod 6.
        Due.is("15: without oaks or persons days pass", 180, x.winters(0, 40));
        Due.is("15: one step", 1, x.about(4));
        x.oak(ALL);
        Due.is("15: without persons", 180 + 180, x.winters(0, 40));
        Due.is("15: nothing is lent", 24, x.ofOak(0, 0));
        TreesLendRings y = new TreesLendRings();
        y.person(3);
        Due.is("15: without oaks", 180, y.winters(0, 40));
    }

    private static void undoing() {
        TreesLendRings x = wood();
        Due.is("16: none", NONE, x.undo());
        x.lend(0, 0, 1);
        x.year(9, 2);
        x.person(44);
        x.lend(0, 1, 3);
        x.pass(0, 0, 3);
        x.returned(0, 1);
        x.day(2);
        Due.is("16: a day", 5, x.undo());
        Due.is("16: DAY", 1, x.is(0));
        Due.is("16: a day", 4, x.undo());
        Due.is("16: back", 3, x.undo());
        Due.is("16: it is with it again", 3, x.ring(0, 1));
        Due.is("16: passed on", 2, x.undo());
        Due.is("16: with the other again", 1, x.ring(0, 0));
        Due.is("16: lent", 1, x.undo());
        Due.is("16: in its oak", NONE, x.ring(0, 1));
        Due.is("16: the first", 0, x.undo());
        Due.is("16: no more", NONE, x.undo());
        Due.is("16: years stay", 2, x.kindOf(9));
        Due.is("16: persons stay", 4, x.about(1));
        x.lend(0, 0, 1);
        x.lend(0, 1, 1);
        Due.is("13: cut", 1, x.day(30));
        x.undo();
        Due.is("16: CUTS", 0, x.is(1));
        Due.is("16: X", 257, x.is(2));
        Due.is("16: BOOK", 0, x.book(NONE, 0));
        Due.is("16: with it", 1, x.ring(0, 0));
        // Rings of oaks that were told since are in them.
        TreesLendRings y = wood();
        y.day(1);
        y.oak(ALL);
        y.lend(3, 7, 0);
        y.undo();
        y.undo();
        Due.is("16: oaks told since", 24, y.ofOak(3, 0));
        TreesLendRings z = wood();
        z.lend(0, 0, 0);
        z.oak(0x7ff);
        Due.is("16: to ahead of the oak", 0, z.undo());
        Due.is("16: whole", 11, z.ofOak(3, 0));
    }

    private static void undoingTheEldest() {
        TreesLendRings x = wood();
        x.day(35);
        Due.is("16: thirty", 30, x.about(4));
        for (int i = 29; i >= 0; i--) {
            Due.is("16: undo", i, x.undo());
        }
        Due.is("16: the eldest are gone", NONE, x.undo());
        Due.is("16: DAY", 5, x.is(0));
        x.day(3);
        x.undo();
        Due.is("16: DAY again", 7, x.is(0));
    }

    private static void ofPersons() {
        TreesLendRings x = wood();
        x.lend(0, 0, 1);
        x.lend(0, 1, 1);
        x.lend(0, 2, 1);
        x.lend(1, 2, 1);
        x.lend(1, 3, 1);
        Due.is("17: OWN", 20, x.of(1, 0));
        Due.is("17: AGE by kinds", 20 + 1 + 2 + 0 + 0 + 1, x.of(1, 1));
        Due.is("17: RINGS", 5, x.of(1, 2));
        Due.is("17: YEARS", 15, x.of(1, 3));
        Due.is("17: KINDS", 15, x.of(1, 4));
        x.returned(0, 1);
        Due.is("17: KINDS fewer", 13, x.of(1, 4));
        Due.is("17: of nothing", 0, x.of(0, 3) + x.of(0, 4) + x.of(0, 2));
        Due.is("17: others", NONE, x.of(1, 5));
        Due.is("17: others below", NONE, x.of(1, -1));
        Due.is("17: no person", NONE, x.of(3, 0));
        Due.is("17: person below", NONE, x.of(-1, 0));
    }

    private static void ofOaks() {
        TreesLendRings x = wood();
        x.lend(1, 0, 0);
        x.lend(1, 5, 0);
        Due.is("18: in it", 10, x.ofOak(1, 0));
        Due.is("18: years", 0xfde, x.ofOak(1, 1));
        Due.is("18: lent", 2, x.ofOak(1, 2));
        Due.is("18: cut", 0, x.ofOak(1, 3));
        Due.is("18: not fenced", 0, x.ofOak(1, 4));
        x.day(30);
        Due.is("18: one cut", 1, x.ofOak(1, 3));
        Due.is("18: none lent", 0, x.ofOak(1, 2));
        Due.is("18: eleven in it", 11, x.ofOak(1, 0));
        Due.is("18: years now", 0xffe, x.ofOak(1, 1));
        Due.is("18: others", NONE, x.ofOak(1, 5));
        Due.is("18: others below", NONE, x.ofOak(1, -1));
        Due.is("18: no oak", NONE, x.ofOak(3, 0));
        Due.is("18: oak below", NONE, x.ofOak(-1, 0));
    }

    private static void rings() {
        TreesLendRings x = wood();
        Due.is("19: in its oak", NONE, x.ring(1, 11));
        Due.is("19: never had", -100, x.ring(1, 12));
        Due.is("19: no oak", -100, x.ring(3, 0));
        Due.is("19: oak below", -100, x.ring(-1, 0));
        Due.is("19: no year", -100, x.ring(0, 24));
        Due.is("19: year below", -100, x.ring(0, -1));
        x.lend(1, 11, 0);
        Due.is("19: with a person", 0, x.ring(1, 11));
        x.day(30);
        Due.is("19: cut", 9, x.ring(1, 11));
    }

    private static void laws() {
        TreesLendRings x = wood();
        Due.is("20: without", 1, x.lends(0, 0, 0));
        Due.is("21: without", 7, x.pays(0, 0, 0));
        Due.tell(x, "lends 0-100; pays 0-1;");
        Due.tell(x, "lends 100; pays 11;");
        Due.tell(x, "lends left*who+kind; pays held*3+who;");
        x.by(0);
        Due.is("20: at least", -99, x.lends(0, 0, 0));
        Due.is("21: at least", 0, x.pays(0, 0, 0));
        x.by(1);
        Due.is("20: at most", 99, x.lends(0, 0, 0));
        Due.is("21: at most", 10, x.pays(0, 0, 0));
        x.by(2);
        Due.is("20: says", 27, x.lends(1, 3, 2));
        Due.is("21: nothing held", 2, x.pays(1, 3, 2));
        x.lend(1, 3, 2);
        Due.is("20: of a ring that is lent", 25, x.lends(1, 3, 2));
        Due.is("21: held", 5, x.pays(1, 3, 2));
        Due.is("21: were it with another", 1, x.pays(1, 3, 1));
        x.by(NONE);
        x.undo();
        x.lend(0, 0, 0);
        x.day(30);
        Due.is("20: of a ring that is cut", 1, x.lends(0, 0, 0));
        Due.is("21: of a ring that is cut", 7, x.pays(0, 0, 0));
        Due.is("20: never had", -100, x.lends(1, 12, 0));
        Due.is("20: no oak", -100, x.lends(3, 0, 0));
        Due.is("20: no year", -100, x.lends(0, 24, 0));
        Due.is("20: no person", -100, x.lends(0, 0, 3));
        Due.is("20: person below", -100, x.lends(0, 0, -1));
        Due.is("21: never had", -100, x.pays(1, 12, 0));
        Due.is("21: no oak", -100, x.pays(-1, 0, 0));
        Due.is("21: no year", -100, x.pays(0, -1, 0));
        Due.is("21: no person", -100, x.pays(0, 0, 3));
    }

    private static void book() {
        TreesLendRings x = wood();
        Due.is("24: none", 0, x.book(NONE, 0));
        Due.is("24: no such", -2, x.book(0, 0));
        Due.tell(x, "pays 0;");
        x.by(0);
        x.lend(0, 20, 2);
        x.lend(2, 12, 1);
        x.day(30);
        Due.is("24: how many", 2, x.book(NONE, 9));
        int[][] cuts = {{30, 2, 0, 20}, {30, 1, 2, 12}};
        for (int i = 0; i < 2; i++) {
            for (int what = 0; what < 4; what++) {
                Due.is("24: book(" + i + ", " + what + ")", cuts[i][what], x.book(i, what));
            }
        }
        Due.is("24: behind the last", -2, x.book(2, 0));
        Due.is("24: others", -2, x.book(0, 4));
        Due.is("24: others below", -2, x.book(0, -1));
        Due.is("24: below", -2, x.book(-2, 0));
        // Fifteen of oak 0 in all, then two of oak 1, three of each later one: 33 could be cut, 30 stay written.
        TreesLendRings y = wood();
        y.oak(ALL);
        Due.tell(y, "pays 0;");
        y.by(0);
        for (int i = 0; i < 15; i++) {
            y.lend(0, i, 0);
            y.lend(3, i, 1);
        }
        Due.is("13: thirty are cut", 30, y.day(30));
        Due.is("24: thirty", 30, y.book(NONE, 0));
        y.lend(1, 11, 2);
        y.lend(1, 10, 2);
        Due.is("13: two more", 2, y.day(30));
        Due.is("24: still thirty", 30, y.book(NONE, 0));
        Due.is("24: the eldest now", 2, y.book(0, 3));
        Due.is("24: the latest", 11, y.book(29, 3));
        Due.is("24: one ahead of it", 10, y.book(28, 3));
        Due.is("24: its DAY", 60, y.book(29, 0));
        Due.is("24: its OAK", 1, y.book(29, 2));
        Due.is("16: one step", 29, y.undo());
        Due.is("16: BOOK's eldest again", 0, y.book(0, 3));
        Due.is("16: BOOK's latest again", 14, y.book(29, 3));
        y.image();
        y.day(1);
        Due.is("24: as ahead of it", 2, y.book(0, 3));
        y.back();
        Due.is("58: BOOK's eldest again", 0, y.book(0, 3));
        y.day(1);
        Due.is("23: CUTS go on", 32, y.is(1));
        Due.is("56: all by the book", 30, y.ledger(NONE));
        Due.is("56: by the book alone", 13, y.ledger(0));
    }

    private static void foretold() {
        TreesLendRings x = wood();
        x.lend(0, 4, 0);
        x.lend(0, 5, 0);
        x.day(20);
        Due.is("25: nothing yet", 0, x.foretold(9, 0, MIN));
        Due.is("25: CUTS", 1, x.foretold(10, 0, MAX));
        Due.is("25: AGE ahead", 12, x.foretold(9, 1, 0));
        Due.is("25: AGE behind", 10, x.foretold(10, 1, 0));
        Due.is("25: RINGS ahead", 22, x.foretold(1, 2, 0));
        Due.is("25: RINGS behind", 23, x.foretold(60, 2, 0));
        Due.is("25: nothing is done", 20, x.is(0));
        Due.is("25: nothing is cut", 0, x.is(1));
        Due.is("25: X stays", 257, x.is(2));
        Due.is("25: no step", 22, x.about(4));
        Due.is("25: no days", NONE, x.foretold(0, 0, 0));
        Due.is("25: too many", NONE, x.foretold(61, 0, 0));
        Due.is("25: others", NONE, x.foretold(1, 3, 0));
        Due.is("25: others below", NONE, x.foretold(1, -1, 0));
        Due.is("25: no person", NONE, x.foretold(1, 1, 3));
        Due.is("25: person below", NONE, x.foretold(1, 1, -1));
        Due.is("25: no oak", NONE, x.foretold(1, 2, 3));
        Due.is("25: oak below", NONE, x.foretold(1, 2, -1));
        x.day(10);
        x.lend(0, 6, 0);
        Due.is("25: CUTS as counted in all", 1, x.foretold(1, 0, 0));
        Due.tell(x, "ages day;");
        x.by(0);
        Due.is("25: by that DAY", 10 + 35, x.foretold(5, 1, 0));
    }

    private static void kinship() {
        TreesLendRings x = wood();
        x.person(40);
        x.person(50);
        x.lend(0, 5, 0);
        x.lend(0, 6, 0);
        x.lend(1, 5, 1);
        x.lend(0, 20, 1);
        x.lend(2, 20, 3);
        x.lend(2, 21, 2);
        Due.is("26: the same year", 1 << 5, x.same(0, 1));
        Due.is("26: either way", 1 << 5, x.same(1, 0));
        Due.is("26: another", 1 << 20, x.same(1, 3));
        Due.is("26: none", 0, x.same(0, 3));
        Due.is("26: like ones", NONE, x.same(0, 0));
        Due.is("26: no person", NONE, x.same(0, 5));
        Due.is("26: below", NONE, x.same(-1, 0));
        Due.is("27: kin by kin", 11, x.kin(0));
        Due.is("27: either way", 11, x.kin(3));
        Due.is("27: between", 11, x.kin(1));
        Due.is("27: alone", 4, x.kin(2));
        Due.is("27: without rings", 16, x.kin(4));
        Due.is("27: others", NONE, x.kin(5));
        Due.is("27: below", NONE, x.kin(-1));
        Due.is("28: pairs", 2, x.twins());
        x.pass(0, 6, 4);
        x.lend(1, 6, 2);
        Due.is("28: one more", 3, x.twins());
        Due.is("27: two alone", 20, x.kin(4));
        Due.is("28: none", 0, wood().twins());
        // A long way round: 4 to 0 by 2, 3 and 1.
        TreesLendRings y = wood();
        y.oak(ALL);
        y.oak(ALL);
        y.person(1);
        y.person(1);
        y.lend(0, 0, 4);
        y.lend(3, 0, 2);
        y.lend(0, 1, 2);
        y.lend(3, 1, 3);
        y.lend(0, 2, 3);
        y.lend(3, 2, 1);
        y.lend(0, 3, 1);
        y.lend(3, 3, 0);
        Due.is("27: a long way", 31, y.kin(0));
        Due.is("27: and back", 31, y.kin(4));
        Due.is("28: four pairs", 4, y.twins());
    }

    private static void yearsOfPersons() {
        TreesLendRings x = wood();
        Due.is("29: none", NONE, x.earliest(0));
        Due.is("30: none", NONE, x.newest(0));
        x.lend(0, 23, 0);
        x.lend(2, 12, 0);
        x.lend(1, 0, 1);
        Due.is("29: least", 12, x.earliest(0));
        Due.is("30: greatest", 23, x.newest(0));
        Due.is("29: year 0", 0, x.earliest(1));
        Due.is("30: year 0", 0, x.newest(1));
        Due.is("29: others", NONE, x.earliest(3));
        Due.is("30: others", NONE, x.newest(3));
        Due.is("29: below", NONE, x.earliest(-1));
        Due.is("30: below", NONE, x.newest(MIN));
    }

    private static void wanted() {
        TreesLendRings x = wood();
        Due.is("34: nothing", 0, x.needs());
        Due.yes("31: told", x.wants(0, 13));
        Due.yes("31: not there", x.wants(4, 99));
        Due.no("31: no person", x.wants(5, 1));
        Due.no("31: below", x.wants(-1, 1));
        Due.no("31: age below", x.wants(0, -1));
        Due.no("31: age above", x.wants(0, 100));
        Due.yes("31: less than own", x.wants(1, 5));
        Due.yes("31: most", x.wants(2, 99));
        Due.is("34: together", 3 + 69, x.needs());
        Due.yes("31: again", x.wants(2, 32));
        Due.is("34: fewer", 3 + 2, x.needs());
        x.lend(0, 0, 0);
        x.lend(0, 1, 0);
        Due.is("34: rings count one each", 1 + 2, x.needs());
        x.lend(0, 4, 0);
        x.lend(0, 5, 0);
        Due.is("34: not below 0", 2, x.needs());
        x.person(1);
        Due.is("34: the fourth wants 0", 2, x.needs());
        x.person(90);
        Due.is("34: the fifth is there now", 2 + 9, x.needs());
        x.wants(0, 0);
        x.wants(4, 0);
        Due.is("33: all that is needed", 2, x.able());
        Due.tell(x, "lends 0;");
        x.by(0);
        Due.is("33: lends aside", 2, x.able());
    }

    private static void takenKinds() {
        TreesLendRings x = new TreesLendRings();
        x.oak(0x7ff);
        x.oak(0xfff);
        x.person(0);
        x.person(0);
        x.year(0, 1);
        x.year(1, 1);
        x.year(2, 3);
        x.wants(0, 9);
        Due.is("33: two and three to spare", 5, x.able());
        Due.is("36: all of it", 5, x.plan(0));
        Due.is("36: nothing wanted", 0, x.plan(1));
        Due.yes("32: wet ones", x.takes(0, 2));
        Due.is("33: two of each oak", 4, x.able());
        Due.yes("32: of fire", x.takes(0, 8));
        Due.is("33: one of each oak", 2, x.able());
        Due.yes("32: both", x.takes(0, 10));
        Due.is("33: by each oak's room", 5, x.able());
        Due.yes("32: none", x.takes(0, 0));
        Due.is("33: none", 0, x.able());
        Due.is("35: it needs 9 and could have none", 1, x.block());
        Due.no("32: no kinds", x.takes(0, 16));
        Due.no("32: below", x.takes(0, -1));
        Due.no("32: no person", x.takes(5, 1));
        Due.no("32: person below", x.takes(-1, 1));
        Due.yes("32: not there", x.takes(4, 1));
        x.takes(0, 8);
        x.takes(1, 15);
        x.wants(1, 2);
        Due.is("36: first", 2, x.plan(0));
        Due.is("36: besides", 2, x.plan(1));
        x.wants(1, 30);
        Due.is("36: what is left", 3, x.plan(1));
        x.takes(1, 8);
        Due.is("36: nothing is left", 0, x.plan(1));
        x.takes(0, 15);
        x.wants(0, 4);
        x.wants(1, 1);
        Due.is("36: all can be", 4, x.plan(0));
        Due.is("36: 0 leaves what 1 takes", 1, x.plan(1));
        Due.is("36: no person", NONE, x.plan(2));
        Due.is("36: below", NONE, x.plan(-1));
    }

    private static void inTheWay() {
        TreesLendRings x = wood();
        Due.is("35: nobody", NONE, x.block());
        x.wants(0, 10 + 21);
        Due.is("33: just able", 21, x.able());
        Due.is("35: just able", NONE, x.block());
        x.wants(1, 21);
        Due.is("35: both", 3, x.block());
        x.takes(1, 8);
        // Of wet rings there are two: person 2 alone needs one more than there are.
        x.wants(2, 33);
        x.takes(2, 2);
        x.wants(0, 0);
        x.wants(1, 0);
        Due.is("35: the third", 4, x.block());
        Due.is("33: two of three", 2, x.able());
        x.wants(0, 13);
        x.takes(0, 4);
        Due.is("35: of like ones they are more", 5, x.block());
        x.wants(0, 12);
        Due.is("35: without whom nothing is wanting", 4, x.block());
        x.wants(1, 20 + 3);
        x.takes(1, 2);
        Due.is("35: the most wanting", 6, x.block());
        x.wants(0, 14);
        Due.is("35: all of them", 7, x.block());
        TreesLendRings y = wood();
        y.wants(0, 13);
        y.takes(0, 2);
        y.wants(1, 23);
        y.takes(1, 4);
        y.wants(2, 30);
        Due.is("35: two sets that want one each", 3, y.block());
        y.wants(1, 22);
        Due.is("35: the lowest set", 1, y.block());
        // Fenced oaks lend nothing.
        TreesLendRings z = new TreesLendRings();
        z.oak(0x1ff);
        z.person(5);
        z.wants(0, 6);
        Due.is("33: fenced", 0, z.able());
        Due.is("35: fenced", 1, z.block());
    }

    private static void votes() {
        TreesLendRings x = new TreesLendRings();
        Due.is("37: without persons", 0, x.vote(99));
        x.person(10);
        Due.is("37: of one", 8, x.vote(18));
        x.person(15);
        Due.is("37: of two both", 11, x.vote(18));
        x.person(3);
        Due.is("37: of three two", 11, x.vote(18));
        x.person(18);
        Due.is("37: of four three", 11, x.vote(18));
        x.person(0);
        Due.is("37: of five three", 0 + 3 + 8, x.vote(18));
        Due.is("37: all are", 0, x.vote(0));
        Due.is("37: most", 81 + 84 + 89, x.vote(99));
        TreesLendRings none = new TreesLendRings();
        none.person(1);
        Due.is("37: one", 98, none.vote(99));
        none.back();
        Due.is("37: without persons again", 0, none.vote(99));
        Due.is("37: below", NONE, x.vote(-1));
        Due.is("37: above", NONE, x.vote(100));
        x.oak(ALL);
        x.lend(0, 0, 1);
        Due.is("37: by AGE", 10, x.vote(18));
        Due.tell(x, "ages 0-9;");
        x.by(0);
        Due.is("37: by AGE below OWN", 12 + 8, x.vote(18));
    }

    private static void marks() {
        TreesLendRings x = wood();
        Due.is("39: without marks all", ALL, x.dated(0));
        Due.is("40: none", NONE, x.nearest());
        Due.is("38: no kind", -2, x.mark(4));
        Due.is("38: below", -2, x.mark(-2));
        Due.is("38: first", 1, x.mark(2));
        Due.is("39: one mark", 4, x.dated(0));
        Due.is("39: one mark, one unlike", ALL, x.dated(1));
        Due.is("38: second", 2, x.mark(3));
        Due.is("39: just so", 4, x.dated(0));
        Due.is("40: best", 2, x.nearest());
        Due.is("39: one unlike", 4, x.dated(1));
        Due.is("39: two unlike, within 23", 0x7fffff, x.dated(2));
        x.year(22, 2);
        Due.is("39: one more of one unlike", 4 | 1 << 22, x.dated(1));
        x.year(23, 3);
        Due.is("39: up to 23", 4 | 1 << 22, x.dated(0));
        Due.is("40: of like ones the lowest", 2, x.nearest());
        Due.is("38: third", 3, x.mark(3));
        Due.is("40: one unlike", 2, x.nearest());
        Due.is("39: below", NONE, x.dated(-1));
        Due.is("39: above", NONE, x.dated(11));
        Due.is("39: ten", 0x3fffff, x.dated(10));
        Due.is("38: none any more", 0, x.mark(NONE));
        for (int i = 1; i <= 10; i++) {
            Due.is("38: marks", i, x.mark(1));
        }
        Due.is("38: there are ten", -2, x.mark(1));
        Due.is("39: ten marks", 0x7fff, x.dated(10));
        Due.is("39: nine unlike", 3, x.dated(9));
        Due.is("40: year 0", 0, x.nearest());
        Due.is("39: none", 0, x.dated(0));
        TreesLendRings y = wood();
        y.year(23, 2);
        y.mark(2);
        y.mark(2);
        Due.is("40: within 23", 1, y.nearest());
    }

    private static void runs() {
        TreesLendRings x = new TreesLendRings();
        x.oak(0b110111011100001110);
        x.oak(0);
        x.oak(ALL);
        x.oak(1 << 23);
        Due.is("41: how many", 3, x.run(0, false));
        Due.is("41: the earliest", 1, x.run(0, true));
        Due.is("41: of nothing", 0, x.run(1, false));
        Due.is("41: none", NONE, x.run(1, true));
        Due.is("41: all", 24, x.run(2, false));
        Due.is("41: from 0", 0, x.run(2, true));
        Due.is("41: the last", 23, x.run(3, true));
        Due.is("41: one", 1, x.run(3, false));
        Due.is("41: no oak", -2, x.run(4, true));
        Due.is("41: below", -2, x.run(-1, false));
        x.person(1);
        x.lend(2, 10, 0);
        Due.is("41: what is lent isn't in it", 13, x.run(2, false));
        Due.is("41: behind it", 11, x.run(2, true));
        Due.is("42: alike", 24 - 11, x.alike(0, 1));
        Due.is("42: what is lent isn't in it", 1, x.alike(1, 2));
        Due.is("42: nearly", 23, x.alike(3, 1));
        Due.is("42: itself", 24, x.alike(0, 0));
        Due.is("42: no oak", NONE, x.alike(0, 4));
        Due.is("42: below", NONE, x.alike(-1, 0));
    }

    private static void standing() {
        TreesLendRings x = wood();
        Due.is("43: nothing lent", 1, x.stands(1, 12, false));
        Due.is("43: nothing lent, lower", 1, x.stands(1, 12, true));
        Due.is("43: never", 0, x.stands(1, 13, false));
        Due.is("43: never, lower", 1, x.stands(1, 13, true));
        x.lend(1, 0, 0);
        x.lend(1, 1, 1);
        Due.is("43: both back", 49, x.stands(1, 12, false));
        Due.is("43: of", 100, x.stands(1, 12, true));
        Due.is("43: one back", 91, x.stands(1, 11, false));
        Due.is("43: none needed", 1, x.stands(1, 10, false));
        Due.is("43: none at all", 1, x.stands(1, 0, true));
        Due.is("43: n above", NONE, x.stands(1, 25, false));
        Due.is("43: n below", NONE, x.stands(1, -1, true));
        Due.is("43: no oak", NONE, x.stands(3, 0, false));
        Due.is("43: oak below", NONE, x.stands(-1, 0, true));
        Due.tell(x, "pays who*4+2;");
        x.by(0);
        Due.is("43: each by its person", 3, x.stands(1, 12, false));
        Due.is("43: lowest terms", 25, x.stands(1, 12, true));
        Due.is("43: one or more", 17, x.stands(1, 11, false));
        Due.is("43: lower of it", 25, x.stands(1, 11, true));
        // As now: fifteen lent, with pays of left.
        TreesLendRings y = wood();
        for (int i = 0; i < 15; i++) {
            Due.yes("10: fifteen", y.lend(0, i, i % 3));
        }
        Due.no("10: not sixteen", y.lend(0, 15, 0));
        Due.is("43: seven of ten fifteen times", 4747561509943L, y.stands(0, 24, false));
        Due.is("43: of ten fifteen times", 1000000000000000L, y.stands(0, 24, true));
        Due.is("43: never below", 1, y.stands(0, 9, false));
        Due.is("43: one at least", 1000000000000000L - 14348907L, y.stands(0, 10, false));
        Due.tell(y, "pays left-4;");
        y.by(0);
        Due.is("43: pays as now", 1, y.stands(0, 24, false));
        Due.is("43: a half fifteen times", 32768, y.stands(0, 24, true));
    }

    private static void expected() {
        TreesLendRings x = wood();
        Due.is("44: nothing", 0, x.expects(false));
        Due.is("44: nothing, lower", 1, x.expects(true));
        x.lend(0, 0, 0);
        Due.is("44: one", 3, x.expects(false));
        Due.is("44: of ten", 10, x.expects(true));
        x.lend(1, 0, 1);
        Due.is("44: two", 3, x.expects(false));
        Due.is("44: lowest terms", 5, x.expects(true));
        Due.tell(x, "pays 10*(1-who)+0*day;");
        x.by(0);
        Due.is("44: one surely", 1, x.expects(false));
        Due.is("44: one, lower", 1, x.expects(true));
        x.returned(1, 0);
        Due.is("44: none surely", 0, x.expects(false));
        Due.is("44: none, lower", 1, x.expects(true));
    }

    private static void prices() {
        TreesLendRings x = wood();
        Due.yes("46: price", x.price(1, 3));
        Due.yes("46: most", x.price(3, 99));
        Due.yes("46: least", x.price(2, 0));
        Due.no("46: above", x.price(0, 100));
        Due.no("46: below", x.price(0, -1));
        Due.no("46: no kind", x.price(4, 1));
        Due.no("46: kind below", x.price(-1, 1));
        Due.is("45: nothing", 0, x.owed(0));
        x.lend(0, 0, 0);
        Due.is("45: at first 10", 10, x.owed(0));
        x.lend(0, 1, 0);
        x.lend(1, 1, 0);
        Due.is("45: two wet ones", 16, x.owed(0));
        x.lend(0, 2, 0);
        Due.is("45: a dry one", 16, x.owed(0));
        x.lend(0, 3, 0);
        Due.is("45: one of fire", 115, x.owed(0));
        Due.is("45: another's", 0, x.owed(1));
        Due.is("45: no person", NONE, x.owed(3));
        Due.is("45: below", NONE, x.owed(-1));
    }

    private static void cheapest() {
        TreesLendRings x = new TreesLendRings();
        x.oak(0xfff);
        x.oak(0xffc000);
        x.person(5);
        x.year(0, 1);
        x.year(1, 1);
        x.year(2, 2);
        x.year(3, 3);
        x.year(23, 3);
        // Oak 0 has three to spare, oak 1 one; at first each kind is 10.
        Due.is("47: like ones: of kind 0", 3, x.cheapest(0, 3, false));
        Due.is("47: price", 30, x.cheapest(0, 3, true));
        Due.is("47: of both oaks", 4, x.cheapest(0, 4, false));
        Due.is("47: not so many", NONE, x.cheapest(0, 5, false));
        Due.is("47: no price of them", NONE, x.cheapest(0, 5, true));
        x.price(0, 20);
        x.price(1, 5);
        Due.is("47: a wet one", 10, x.cheapest(0, 1, false));
        Due.is("47: its price", 5, x.cheapest(0, 1, true));
        Due.is("47: both wet ones", 20, x.cheapest(0, 2, false));
        Due.is("47: rather dry than of fire", 120, x.cheapest(0, 3, false));
        Due.is("47: one of fire of oak 1", 1120, x.cheapest(0, 4, false));
        Due.is("47: price together", 30, x.cheapest(0, 4, true));
        x.takes(0, 1);
        Due.is("47: plain ones alone", 4, x.cheapest(0, 4, false));
        Due.is("47: price of plain ones", 80, x.cheapest(0, 4, true));
        x.takes(0, 2);
        Due.is("47: wet ones alone", NONE, x.cheapest(0, 3, true));
        x.takes(0, 6);
        Due.is("47: wet and dry", 120, x.cheapest(0, 3, false));
        x.takes(0, 0);
        Due.is("47: none that it would take", NONE, x.cheapest(0, 1, false));
        x.takes(0, 15);
        x.price(0, 99);
        x.price(1, 10);
        x.price(3, 99);
        Due.is("47: rather wet than dry", 10, x.cheapest(0, 1, false));
        Due.is("47: then dry", 120, x.cheapest(0, 3, false));
        x.price(0, 0);
        Due.is("47: for nothing", 0, x.cheapest(0, 4, true));
        Due.tell(x, "lends 0;");
        x.by(0);
        Due.is("47: lends aside", 4, x.cheapest(0, 4, false));
        Due.is("47: none", NONE, x.cheapest(0, 0, true));
        Due.is("47: below", NONE, x.cheapest(0, -1, true));
        Due.is("47: too many", NONE, x.cheapest(0, 10, true));
        Due.is("47: no person", NONE, x.cheapest(1, 1, true));
        Due.is("47: person below", NONE, x.cheapest(-1, 1, true));
        x.by(NONE);
        x.lend(0, 11, 0);
        Due.is("47: one less to spare", NONE, x.cheapest(0, 4, false));
        TreesLendRings y = wood();
        Due.is("47: nine", 9, y.cheapest(0, 9, false));
        Due.is("47: never ten", NONE, y.cheapest(0, 10, true));
        scarceKinds();
    }

    private static void scarceKinds() {
        int[] ten = {1, 10, 100, 1000};
        for (int kind = 0; kind < 4; kind++) {
            TreesLendRings x = new TreesLendRings();
            x.oak(ALL);
            for (int p = 0; p < 5; p++) {
                x.person(p);
            }
            for (int y = 2; y < 24; y++) {
                x.year(y, (kind + 1 + y % 3) % 4);
            }
            x.year(0, kind);
            x.year(1, kind);
            for (int k = 0; k < 4; k++) {
                x.price(k, k == kind ? 1 : 50);
            }
            int other = kind == 0 ? 10 : 1;
            for (int p = 0; p < 5; p++) {
                Due.is("47: both cheap ones of " + kind, 2 * ten[kind], x.cheapest(p, 2, false));
                Due.is("47: no third of " + kind, 2 * ten[kind] + other, x.cheapest(p, 3, false));
                Due.is("47: price with kind " + kind, 52, x.cheapest(p, 3, true));
            }
        }
    }

    private static void said() {
        TreesLendRings x = wood();
        Due.is("49: without texts", 0, x.whose());
        Due.tell(x, "ages 2;");
        Due.tell(x, "ages kind*2;");
        Due.tell(x, "lends 5;");
        Due.is("49: nothing is said", 7, x.whose());
        x.lend(0, 1, 0);
        x.lend(0, 4, 1);
        Due.is("48: said", 1, x.said(0, 12));
        Due.is("49: all say so", 7, x.whose());
        Due.is("48: said", 2, x.said(1, 21));
        Due.is("49: by what is so without", 4, x.whose());
        Due.is("48: none any more", 0, x.said(NONE, MAX));
        Due.is("48: said anew", 1, x.said(1, 22));
        Due.is("49: the first", 1, x.whose());
        x.said(2, 30);
        Due.is("49: and OWN", 1, x.whose());
        x.said(2, 31);
        Due.is("49: nobody's", 0, x.whose());
        x.by(1);
        Due.is("49: the ruling text doesn't matter", 0, x.whose());
        Due.is("48: no person", -2, x.said(3, 1));
        Due.is("48: below", -2, x.said(-2, 1));
        Due.is("48: age below", -2, x.said(0, -1000));
        Due.is("48: age above", -2, x.said(0, 10000));
        Due.is("48: least", 4, x.said(0, -999));
        Due.is("48: most", 5, x.said(0, 9999));
        x.said(0, 1);
        x.said(0, 1);
        Due.is("48: eighth", 8, x.said(0, 1));
        Due.is("48: there are 8", -2, x.said(0, 1));
        Due.is("59: said", 8, x.about(6));
    }

    private static void eldest() {
        TreesLendRings x = new TreesLendRings();
        Due.is("50: none", NONE, x.eldest());
        x.person(0);
        Due.is("50: one", 0, x.eldest());
        x.person(7);
        x.person(7);
        Due.is("50: of like ones the lowest", 1, x.eldest());
        x.oak(ALL);
        x.lend(0, 0, 2);
        Due.is("50: by AGE", 2, x.eldest());
        Due.tell(x, "ages 0-9;");
        x.by(0);
        Due.is("50: by AGE below", 1, x.eldest());
        TreesLendRings y = new TreesLendRings();
        y.person(0);
        y.oak(ALL);
        Due.tell(y, "ages 0-9;");
        y.by(0);
        y.lend(0, 0, 0);
        Due.is("50: below 0", 0, y.eldest());
        Due.is("17: below 0", -9, y.of(0, 1));
    }

    private static void oaksAndKinds() {
        TreesLendRings x = wood();
        Due.is("51: left", 3, x.left(0));
        Due.is("51: late year", 5, x.left(23));
        x.lend(0, 0, 0);
        Due.is("51: lent", 2, x.left(0));
        Due.is("51: no year", NONE, x.left(24));
        Due.is("51: below", NONE, x.left(-1));
        Due.is("52: plain", 48 - 1 - 6, x.count(0));
        Due.is("52: wet", 2, x.count(1));
        x.lend(1, 3, 0);
        Due.is("52: of fire", 1, x.count(3));
        Due.is("52: no kind", NONE, x.count(4));
        Due.is("52: below", NONE, x.count(-1));
        Due.is("53: none fenced", 0, x.fenced());
        Due.is("54: of like ones the lowest", 1, x.bare());
        x.lend(2, 12, 1);
        x.lend(2, 13, 1);
        Due.is("54: the barest", 2, x.bare());
        x.lend(2, 14, 1);
        Due.is("53: fenced", 4, x.fenced());
        x.oak(0x1ff);
        x.oak(0x3ff);
        Due.is("53: nine but not ten", 12, x.fenced());
        Due.is("54: still", 2, x.bare());
        Due.is("54: none", NONE, new TreesLendRings().bare());
        Due.is("55: fires", 1, x.fires());
        x.lend(0, 3, 2);
        Due.is("55: two", 5, x.fires());
        x.year(13, 3);
        Due.is("55: all", 7, x.fires());
        Due.is("55: none", 0, wood().fires());
    }

    private static void ledger() {
        TreesLendRings x = wood();
        Due.is("56: nothing", 0, x.ledger(NONE));
        Due.tell(x, "pays 0;");
        x.by(0);
        x.lend(0, 0, 1);
        x.lend(0, 1, 1);
        x.lend(0, 2, 2);
        x.day(30);
        Due.is("56: of a person", 2, x.ledger(1));
        Due.is("56: of another", 1, x.ledger(2));
        Due.is("56: of none", 0, x.ledger(0));
        Due.is("56: all", 3, x.ledger(NONE));
        Due.is("56: no person", -2, x.ledger(3));
        Due.is("56: below", -2, x.ledger(-2));
    }

    private static void image() {
        TreesLendRings x = wood();
        Due.tell(x, "ages 3;");
        Due.tell(x, "ages 4;");
        x.by(0);
        x.wants(0, 30);
        x.takes(0, 3);
        x.price(0, 1);
        x.mark(2);
        x.said(0, 13);
        x.lend(0, 0, 0);
        x.day(5);
        Due.put(x, "ages");
        Due.is("57: DAY", 5, x.image());
        x.text();
        Due.put(x, "day 1;");
        x.lend(0, 1, 1);
        x.day(60);
        x.oak(1);
        x.person(1);
        x.year(0, 3);
        x.by(1);
        x.wants(0, 0);
        x.takes(0, 15);
        x.price(0, 90);
        x.mark(NONE);
        x.mark(1);
        x.mark(0);
        x.said(NONE, 0);
        x.said(1, 1);
        x.said(1, 1);
        x.undo();
        Due.tell(x, "ages 9;");
        Due.put(x, "day 1;");
        Due.is("58: DAY", 5, x.back());
        int[] so = {3, 3, 2, 0, 6, 1, 1, 6};
        for (int i = 0; i < so.length; i++) {
            Due.is("58: about(" + i + ")", so[i], x.about(i));
        }
        Due.is("58: the fault isn't kept", 0, x.fault(0));
        Due.is("58: DAY now", 5, x.is(0));
        Due.is("58: CUTS", 0, x.is(1));
        Due.is("58: X", 257, x.is(2));
        Due.is("58: rings", 0, x.ring(0, 0));
        Due.is("58: rings in oaks", NONE, x.ring(0, 1));
        Due.is("58: years", 0, x.kindOf(0));
        Due.is("58: AGE by the text", 13, x.of(0, 1));
        Due.is("58: said", 1, x.whose());
        Due.is("58: prices", 1, x.owed(0));
        Due.is("58: wanted", 30 - 11, x.needs());
        x.price(3, 0);
        Due.is("58: taken kinds", 1, x.cheapest(0, 1, false));
        Due.is("58: marks", 2, x.nearest());
        Due.is("58: the tape is as it was", 2, x.text());
        Due.is("58: steps", 5, x.undo());
        x.undo();
        x.undo();
        x.undo();
        x.undo();
        Due.is("58: the first step", 0, x.undo());
        Due.is("58: in its oak", NONE, x.ring(0, 0));
        Due.is("58: the image stays", 5, x.back());
        Due.is("58: steps stay", 6, x.about(4));
        Due.is("58: texts are as many", 2, x.about(2));
        Due.is("58: another third text", 2, Due.tell(x, "ages 7;"));
    }

    private static void about() {
        TreesLendRings x = wood();
        x.lend(0, 0, 0);
        x.mark(1);
        x.mark(1);
        x.said(0, 1);
        Due.tell(x, "day 1;");
        x.by(0);
        Due.put(x, "1234567");
        int[] so = {3, 3, 1, 0, 1, 2, 1, 7};
        for (int i = 0; i < so.length; i++) {
            Due.is("59: about(" + i + ")", so[i], x.about(i));
        }
        Due.is("59: others", -2, x.about(8));
        Due.is("59: others below", -2, x.about(-1));
        Due.is("59: far", -2, x.about(MAX));
    }
}
