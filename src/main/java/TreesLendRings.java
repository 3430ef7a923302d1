import java.util.Arrays;

/** A town that borrows years from its oaks; the words in capitals are those of the document. */
public final class TreesLendRings {
    public static final int NONE = -1;

    private static final int OTHER = -2;
    private static final int NEVER = -100;
    private static final int IS_CUT = 9;

    private static final int YEARS = 24;
    private static final int ALL_YEARS = (1 << YEARS) - 1;
    private static final int KINDS = 4;
    private static final int KIND_SETS = 1 << KINDS;
    private static final int OAKS = 5;
    private static final int PERSONS = 5;
    private static final int TEXTS = 4;
    private static final int TAPE = 300;
    private static final int CLAUSES = 24;
    private static final int PARTS = 4;
    private static final int LAWS = 3;
    private static final int OPEN_AT_MOST = 8;
    private static final int STEPS = 30;
    private static final int BOOK = 30;
    private static final int MARKS = 10;
    private static final int SAID = 8;
    private static final int KEPT = 9;
    private static final int MONTH = 30;
    private static final int DAYS_AT_MOST = 60;
    private static final int WINTERS_AT_MOST = 40;
    private static final int GREATEST = 9999;
    private static final int GREATEST_AGE = 99;
    private static final int GREATEST_PRICE = 99;
    private static final int LEAST_SAID = -999;
    private static final int FIRST_X = 257;
    private static final int LENT_AT_MOST = 15;
    private static final int RINGS_AT_MOST = 9;
    private static final int TEN = 10;
    private static final int FIRE = 3;

    private final Town town;
    private final Town kept;
    private final Judge judge;
    private final Counsel counsel;
    private final Odds odds;
    private final Rings foreseen;
    private final Reader reader;
    private final int[] lacks;
    private final char[] tape;
    private int taped;
    private int latestFault;
    private int latestPlace;

    public TreesLendRings() {
        town = new Town();
        kept = new Town();
        judge = new Judge(town);
        counsel = new Counsel(town);
        odds = new Odds();
        foreseen = new Rings();
        reader = new Reader();
        lacks = new int[PERSONS];
        tape = new char[TAPE];
        taped = 0;
        latestFault = NONE;
        latestPlace = NONE;
    }

    // ==== I. What is told, and what is done by hand

    public int oak(int rings) {
        if (rings < 0 || rings > ALL_YEARS || !hasRoom(town.oaks, OAKS)) {
            return NONE;
        }
        int number = town.oaks;
        town.grown[number] = rings;
        town.oaks = number + 1;
        return number;
    }

    public boolean year(int y, int kind) {
        if (!isYear(y) || !isKind(kind)) {
            return false;
        }
        town.kinds[y] = kind;
        return true;
    }

    public int person(int own) {
        if (!isAge(own) || !hasRoom(town.persons, PERSONS)) {
            return NONE;
        }
        int number = town.persons;
        town.own[number] = own;
        town.persons = number + 1;
        return number;
    }

    public int feed(int a, int b, int c, int d, int e) {
        if (taped + 20 > TAPE) {
            return NONE;
        }
        putOnTape(a);
        putOnTape(b);
        putOnTape(c);
        putOnTape(d);
        putOnTape(e);
        return taped;
    }

    public int end(int n) {
        if (n < 0 || n > taped) {
            return NONE;
        }
        taped = n;
        return n;
    }

    public int text() {
        if (!hasRoom(town.textCount, TEXTS)) {
            return NONE;
        }
        Text told = reader.read(tape, taped);
        taped = 0;
        latestFault = reader.fault;
        latestPlace = reader.faultPlace;
        if (told == null) {
            return NONE;
        }
        int number = town.textCount;
        town.texts[number] = told;
        town.textCount = number + 1;
        return number;
    }

    public int fault(int what) {
        switch (what) {
            case 0:
                return latestFault;
            case 1:
                return latestPlace;
            default:
                return NONE;
        }
    }

    public boolean by(int text) {
        if (text != NONE && town.textAt(text) == null) {
            return false;
        }
        town.ruling = text;
        return true;
    }

    public boolean lend(int oak, int y, int person) {
        if (!canLend(oak, y, person)) {
            return false;
        }
        town.steps.push(town.rings);
        town.rings.give(oak, y, person);
        return true;
    }

    public boolean returned(int oak, int y) {
        if (town.rings.holder(oak, y) == NONE) {
            return false;
        }
        town.steps.push(town.rings);
        town.rings.bring(oak, y);
        return true;
    }

    public boolean pass(int oak, int y, int person) {
        if (!canPass(oak, y, person)) {
            return false;
        }
        town.steps.push(town.rings);
        town.rings.give(oak, y, person);
        return true;
    }

    public int day(int n) {
        if (n < 1 || n > DAYS_AT_MOST || n > daysAhead(town.rings)) {
            return NONE;
        }
        return daysPass(town.rings, n, true);
    }

    public int played(int text) {
        Text told = town.textAt(text);
        if (told == null) {
            return OTHER;
        }
        int clauses = told.clauseCount();
        for (int i = 0; i < clauses; i++) {
            int first = told.part(i, 1);
            int second = told.part(i, 2);
            int third = told.part(i, 3);
            // A law rules by being THE TEXT's: there is nothing to play.
            boolean can = true;
            switch (told.part(i, 0)) {
                case Sign.OAK:
                    can = oak(first) != NONE;
                    break;
                case Sign.YEAR:
                    can = year(first, second);
                    break;
                case Sign.PERSON:
                    can = person(first) != NONE;
                    break;
                case Sign.LEND:
                    can = lend(second, first, third);
                    break;
                case Sign.BACK:
                    can = returned(second, first);
                    break;
                case Sign.PASS:
                    can = pass(second, first, third);
                    break;
                case Sign.DAY:
                    can = first <= daysAhead(town.rings);
                    daysPass(town.rings, Math.min(first, daysAhead(town.rings)), true);
                    break;
                default:
                    break;
            }
            if (!can) {
                return i;
            }
        }
        return NONE;
    }

    public int winters(int seed, int n) {
        if (seed < 0 || seed > GREATEST || n < 1 || n > WINTERS_AT_MOST) {
            return NONE;
        }
        Rings rings = town.rings;
        town.steps.push(rings);
        rings.x = seed * 2 + FIRST_X;
        for (int i = 0; i < n; i++) {
            int x = rings.x;
            rings.drawn();
            if (x % 6 != 5) {
                winterRing(x);
            } else if (daysAhead(rings) >= MONTH) {
                daysPass(rings, MONTH, false);
            }
        }
        return rings.day;
    }

    public int undo() {
        if (!town.steps.pop(town.rings)) {
            return NONE;
        }
        return town.steps.size;
    }

    // ==== What is so now

    public int of(int person, int what) {
        if (!town.hasPerson(person)) {
            return NONE;
        }
        switch (what) {
            case 0:
                return town.own[person];
            case 1:
                return ageOf(town.rings, town.ruler(), person);
            case 2:
                return town.rings.heldBy(person);
            case 3:
                return town.rings.yearsOf(person);
            case 4:
                return town.kindsOf(town.rings.yearsOf(person));
            default:
                return NONE;
        }
    }

    public int ofOak(int oak, int what) {
        if (!town.hasOak(oak)) {
            return NONE;
        }
        switch (what) {
            case 0:
                return Integer.bitCount(town.inOak(town.rings, oak));
            case 1:
                return town.inOak(town.rings, oak);
            case 2:
                return Integer.bitCount(town.rings.lentOf(oak));
            case 3:
                return Integer.bitCount(town.rings.cut[oak]);
            case 4:
                return town.isFenced(oak) ? 1 : 0;
            default:
                return NONE;
        }
    }

    public int ring(int oak, int y) {
        if (!town.hadRing(oak, y)) {
            return NEVER;
        }
        if ((town.rings.cut[oak] >> y & 1) == 1) {
            return IS_CUT;
        }
        return town.rings.holder(oak, y);
    }

    public int lends(int oak, int y, int person) {
        if (!town.hadRing(oak, y) || !town.hasPerson(person)) {
            return NEVER;
        }
        return judge.says(Sign.LENDS, town.ruler(), town.rings, oak, y, person);
    }

    public int pays(int oak, int y, int person) {
        if (!town.hadRing(oak, y) || !town.hasPerson(person)) {
            return NEVER;
        }
        return judge.says(Sign.PAYS, town.ruler(), town.rings, oak, y, person);
    }

    public int kindOf(int y) {
        return isYear(y) ? town.kinds[y] : NONE;
    }

    public int is(int what) {
        switch (what) {
            case 0:
                return town.rings.day;
            case 1:
                return town.rings.cuts;
            case 2:
                return town.rings.x;
            case 3:
                return MONTH - town.rings.day % MONTH;
            default:
                return OTHER;
        }
    }

    public int book(int i, int what) {
        if (i == NONE) {
            return town.rings.written;
        }
        return town.rings.page(i, what);
    }

    // ==== III. What changes nothing

    public int foretold(int n, int what, int which) {
        boolean told = what == 0 || what == 1 && town.hasPerson(which) || what == 2 && town.hasOak(which);
        if (n < 1 || n > DAYS_AT_MOST || !told) {
            return NONE;
        }
        foreseen.becomes(town.rings);
        int ahead = daysAhead(foreseen);
        daysPass(foreseen, n < ahead ? n : ahead, false);
        if (what == 0) {
            return foreseen.cuts;
        }
        if (what == 1) {
            return ageOf(foreseen, town.ruler(), which);
        }
        return Integer.bitCount(town.inOak(foreseen, which));
    }

    public int same(int p, int q) {
        if (!town.hasPerson(p) || !town.hasPerson(q) || p == q) {
            return NONE;
        }
        return town.rings.yearsOf(p) & town.rings.yearsOf(q);
    }

    public int kin(int person) {
        if (!town.hasPerson(person)) {
            return NONE;
        }
        int found = 1 << person;
        int years = town.rings.yearsOf(person);
        // Each round finds one more at least, or there is none to find.
        for (int round = 0; round < town.persons; round++) {
            for (int p = 0; p < town.persons; p++) {
                if ((town.rings.yearsOf(p) & years) != 0) {
                    found |= 1 << p;
                    years |= town.rings.yearsOf(p);
                }
            }
        }
        return found;
    }

    public int twins() {
        int pairs = 0;
        for (int p = 0; p < town.persons; p++) {
            for (int q = p + 1; q < town.persons; q++) {
                if ((town.rings.yearsOf(p) & town.rings.yearsOf(q)) != 0) {
                    pairs++;
                }
            }
        }
        return pairs;
    }

    public int earliest(int person) {
        int years = town.rings.yearsOf(person);
        for (int y = 0; y < YEARS; y++) {
            if ((years >> y & 1) == 1) {
                return y;
            }
        }
        return NONE;
    }

    public int newest(int person) {
        int years = town.rings.yearsOf(person);
        for (int y = YEARS - 1; y >= 0; y--) {
            if ((years >> y & 1) == 1) {
                return y;
            }
        }
        return NONE;
    }

    public boolean wants(int person, int age) {
        if (person < 0 || person >= PERSONS || !isAge(age)) {
            return false;
        }
        town.wanted[person] = age;
        return true;
    }

    public boolean takes(int person, int kinds) {
        if (person < 0 || person >= PERSONS || kinds < 0 || kinds >= KIND_SETS) {
            return false;
        }
        town.taken[person] = kinds;
        return true;
    }

    public int able() {
        return counsel.lendable(town.persons);
    }

    public int needs() {
        return counsel.needOf((1 << town.persons) - 1);
    }

    public int block() {
        return counsel.inTheWay();
    }

    public int plan(int person) {
        if (!town.hasPerson(person)) {
            return NONE;
        }
        return counsel.lendable(person + 1) - counsel.lendable(person);
    }

    public int vote(int age) {
        if (!isAge(age)) {
            return NONE;
        }
        int persons = Math.min(town.persons, PERSONS);
        for (int p = 0; p < persons; p++) {
            lacks[p] = Math.max(0, age - ageOf(town.rings, town.ruler(), p));
        }
        int rings = 0;
        for (int voters = 0; voters * 2 <= persons && voters < persons; voters++) {
            int least = voters;
            for (int p = voters + 1; p < persons; p++) {
                if (lacks[p] < lacks[least]) {
                    least = p;
                }
            }
            rings += lacks[least];
            lacks[least] = lacks[voters];
        }
        return rings;
    }

    public int mark(int kind) {
        if (kind == NONE) {
            town.markCount = 0;
            return 0;
        }
        if (!isKind(kind) || !hasRoom(town.markCount, MARKS)) {
            return OTHER;
        }
        town.marks[town.markCount] = kind;
        town.markCount++;
        return town.markCount;
    }

    public int dated(int unlike) {
        if (unlike < 0 || unlike > MARKS) {
            return NONE;
        }
        int years = 0;
        for (int y = 0; y < YEARS; y++) {
            if (town.markCount == 0 || town.marksFit(y) && town.unlikeFrom(y) <= unlike) {
                years |= 1 << y;
            }
        }
        return years;
    }

    public int nearest() {
        if (town.markCount == 0) {
            return NONE;
        }
        int best = 0;
        for (int y = 1; y < YEARS; y++) {
            if (town.marksFit(y) && town.unlikeFrom(y) < town.unlikeFrom(best)) {
                best = y;
            }
        }
        return best;
    }

    // ==== IV. Runs, odds, prices, laws

    public int run(int oak, boolean first) {
        if (!town.hasOak(oak)) {
            return OTHER;
        }
        int in = town.inOak(town.rings, oak);
        int longest = 0;
        int start = NONE;
        int length = 0;
        for (int y = 0; y < YEARS; y++) {
            length = (in >> y & 1) == 1 ? length + 1 : 0;
            if (length > longest) {
                longest = length;
                start = y - length + 1;
            }
        }
        return first ? start : longest;
    }

    public int alike(int a, int b) {
        if (!town.hasOak(a) || !town.hasOak(b)) {
            return NONE;
        }
        return YEARS - Integer.bitCount(town.inOak(town.rings, a) ^ town.inOak(town.rings, b));
    }

    public long stands(int oak, int n, boolean low) {
        if (!town.hasOak(oak) || n < 0 || n > YEARS || Integer.bitCount(town.rings.lentOf(oak)) > LENT_AT_MOST) {
            return NONE;
        }
        odds.begin();
        int lent = town.rings.lentOf(oak);
        for (int y = 0; y < YEARS; y++) {
            if ((lent >> y & 1) == 1) {
                int holder = town.rings.holder(oak, y);
                odds.draw(judge.says(Sign.PAYS, town.ruler(), town.rings, oak, y, holder));
            }
        }
        int in = Integer.bitCount(town.inOak(town.rings, oak));
        return Odds.lowest(odds.atLeast(n - in), odds.all, low);
    }

    public long expects(boolean low) {
        long tenths = 0;
        for (int oak = 0; oak < town.oaks; oak++) {
            int lent = town.rings.lentOf(oak);
            for (int y = 0; y < YEARS; y++) {
                if ((lent >> y & 1) == 1) {
                    int holder = town.rings.holder(oak, y);
                    tenths += TEN - judge.says(Sign.PAYS, town.ruler(), town.rings, oak, y, holder);
                }
            }
        }
        return Odds.lowest(tenths, TEN, low);
    }

    public int owed(int person) {
        if (!town.hasPerson(person)) {
            return NONE;
        }
        int sum = 0;
        for (int oak = 0; oak < town.oaks; oak++) {
            for (int kind = 0; kind < KINDS; kind++) {
                int years = town.rings.with(oak, person) & town.yearsOfKinds(1 << kind);
                sum += town.prices[kind] * Integer.bitCount(years);
            }
        }
        return sum;
    }

    public boolean price(int kind, int price) {
        if (!isKind(kind) || price < 0 || price > GREATEST_PRICE) {
            return false;
        }
        town.prices[kind] = price;
        return true;
    }

    public int cheapest(int person, int n, boolean price) {
        if (!town.hasPerson(person) || n < 1 || n > RINGS_AT_MOST) {
            return NONE;
        }
        counsel.shop(town.taken[person], n);
        return price ? counsel.bestPrice : counsel.bestRings;
    }

    public int said(int person, int age) {
        if (person == NONE) {
            town.saidCount = 0;
            return 0;
        }
        if (!town.hasPerson(person) || age < LEAST_SAID || age > GREATEST || !hasRoom(town.saidCount, SAID)) {
            return OTHER;
        }
        town.saidWho[town.saidCount] = person;
        town.saidAge[town.saidCount] = age;
        town.saidCount++;
        return town.saidCount;
    }

    public int whose() {
        int texts = 0;
        for (int t = 0; t < town.textCount; t++) {
            boolean so = true;
            for (int i = 0; i < town.saidCount && i < SAID; i++) {
                if (ageOf(town.rings, town.textAt(t), town.saidWho[i]) != town.saidAge[i]) {
                    so = false;
                }
            }
            if (so) {
                texts |= 1 << t;
            }
        }
        return texts;
    }

    public int eldest() {
        int found = NONE;
        int most = 0;
        for (int p = 0; p < town.persons; p++) {
            int age = ageOf(town.rings, town.ruler(), p);
            if (found == NONE || age > most) {
                found = p;
                most = age;
            }
        }
        return found;
    }

    public int left(int y) {
        if (!isYear(y)) {
            return NONE;
        }
        int oaks = 0;
        for (int oak = 0; oak < town.oaks; oak++) {
            oaks |= (town.inOak(town.rings, oak) >> y & 1) << oak;
        }
        return oaks;
    }

    public int count(int kind) {
        if (!isKind(kind)) {
            return NONE;
        }
        int years = town.yearsOfKinds(1 << kind);
        int sum = 0;
        for (int oak = 0; oak < town.oaks; oak++) {
            sum += Integer.bitCount(town.inOak(town.rings, oak) & years);
        }
        return sum;
    }

    public int fenced() {
        int oaks = 0;
        for (int oak = 0; oak < town.oaks; oak++) {
            if (town.isFenced(oak)) {
                oaks |= 1 << oak;
            }
        }
        return oaks;
    }

    public int bare() {
        int found = NONE;
        int fewest = 0;
        for (int oak = 0; oak < town.oaks; oak++) {
            int rings = Integer.bitCount(town.inOak(town.rings, oak));
            if (found == NONE || rings < fewest) {
                found = oak;
                fewest = rings;
            }
        }
        return found;
    }

    public int fires() {
        int burnt = town.yearsOfKinds(1 << FIRE);
        int persons = 0;
        for (int p = 0; p < town.persons; p++) {
            if ((town.rings.yearsOf(p) & burnt) != 0) {
                persons |= 1 << p;
            }
        }
        return persons;
    }

    public int ledger(int person) {
        if (person == NONE) {
            return town.rings.written;
        }
        if (!town.hasPerson(person)) {
            return OTHER;
        }
        int cuts = 0;
        for (int i = 0; i < town.rings.written; i++) {
            if (town.rings.page(i, 1) == person) {
                cuts++;
            }
        }
        return cuts;
    }

    public int image() {
        kept.becomes(town);
        return town.rings.day;
    }

    public int back() {
        town.becomes(kept);
        return town.rings.day;
    }

    public int about(int what) {
        switch (what) {
            case 0:
                return town.oaks;
            case 1:
                return town.persons;
            case 2:
                return town.textCount;
            case 3:
                return town.ruling;
            case 4:
                return town.steps.size;
            case 5:
                return town.markCount;
            case 6:
                return town.saidCount;
            case 7:
                return taped;
            default:
                return OTHER;
        }
    }

    // ==== What the calls share

    private static boolean isYear(int y) {
        return y >= 0 && y < YEARS;
    }

    private static boolean isKind(int kind) {
        return kind >= 0 && kind < KINDS;
    }

    private static boolean isAge(int age) {
        return age >= 0 && age <= GREATEST_AGE;
    }

    /** Whether one more can be put behind those that there are. */
    private static boolean hasRoom(int there, int most) {
        return there >= 0 && there < most;
    }

    private void putOnTape(int four) {
        for (int shift = 24; shift >= 0 && hasRoom(taped, TAPE); shift -= 8) {
            tape[taped] = (char) (four >>> shift & 255);
            taped++;
        }
    }

    private boolean canLend(int oak, int y, int person) {
        if (!town.hadRing(oak, y) || !town.hasPerson(person) || town.isFenced(oak)) {
            return false;
        }
        boolean in = (town.inOak(town.rings, oak) >> y & 1) == 1;
        return in && judge.says(Sign.LENDS, town.ruler(), town.rings, oak, y, person) > 0;
    }

    private boolean canPass(int oak, int y, int person) {
        int holder = town.rings.holder(oak, y);
        if (holder == NONE || holder == person || !town.hasPerson(person)) {
            return false;
        }
        return judge.says(Sign.LENDS, town.ruler(), town.rings, oak, y, person) > 0;
    }

    private static int daysAhead(Rings rings) {
        return GREATEST - rings.day;
    }

    private int daysPass(Rings rings, int n, boolean asSteps) {
        int cuts = 0;
        for (int i = 0; i < n; i++) {
            if (asSteps) {
                town.steps.push(rings);
            }
            rings.day++;
            if (rings.day % MONTH == 0) {
                cuts += midsummer(rings);
            }
        }
        return cuts;
    }

    private int midsummer(Rings rings) {
        int cuts = 0;
        for (int oak = 0; oak < town.oaks; oak++) {
            int lent = rings.lentOf(oak);
            for (int y = 0; y < YEARS; y++) {
                if ((lent >> y & 1) == 0) {
                    continue;
                }
                int holder = rings.holder(oak, y);
                int pays = judge.says(Sign.PAYS, town.ruler(), rings, oak, y, holder);
                rings.bring(oak, y);
                if (rings.drawn() % TEN >= pays) {
                    rings.cutOff(oak, y, holder);
                    cuts++;
                }
            }
        }
        return cuts;
    }

    private void winterRing(int x) {
        if (town.oaks < 1) {
            return;
        }
        int oak = x % town.oaks;
        int y = x / 6 % YEARS;
        if (x % 6 == 3) {
            town.rings.bring(oak, y);
            return;
        }
        if (town.persons < 1) {
            return;
        }
        boolean passing = x % 6 == 4;
        int person = passing ? x / 5 % town.persons : x % town.persons;
        if (passing ? canPass(oak, y, person) : canLend(oak, y, person)) {
            town.rings.give(oak, y, person);
        }
    }

    private int ageOf(Rings rings, Text text, int person) {
        if (!town.hasPerson(person)) {
            return 0;
        }
        int age = town.own[person];
        for (int oak = 0; oak < town.oaks; oak++) {
            int years = rings.with(oak, person);
            for (int y = 0; y < YEARS; y++) {
                if ((years >> y & 1) == 1) {
                    age += judge.says(Sign.AGES, text, rings, oak, y, person);
                }
            }
        }
        return age;
    }

    /** All that a STEP may change; what is neither lent nor cut is in its OAK, so OAKS told later are whole. */
    static final class Rings {
        final int[] lent;
        final int[] cut;
        final int[] pages;
        int written;
        int cuts;
        int day;
        int x;

        Rings() {
            lent = new int[OAKS * PERSONS];
            cut = new int[OAKS];
            pages = new int[BOOK];
            x = FIRST_X;
        }

        void becomes(Rings other) {
            System.arraycopy(other.lent, 0, lent, 0, OAKS * PERSONS);
            System.arraycopy(other.cut, 0, cut, 0, OAKS);
            System.arraycopy(other.pages, 0, pages, 0, BOOK);
            written = other.written;
            cuts = other.cuts;
            day = other.day;
            x = other.x;
        }

        int with(int oak, int person) {
            if (oak < 0 || oak >= OAKS || person < 0 || person >= PERSONS) {
                return 0;
            }
            return lent[oak * PERSONS + person];
        }

        int lentOf(int oak) {
            int years = 0;
            for (int p = 0; p < PERSONS; p++) {
                years |= with(oak, p);
            }
            return years;
        }

        int goneFrom(int oak) {
            if (oak < 0 || oak >= OAKS) {
                return 0;
            }
            int years = cut[oak];
            for (int p = 0; p < PERSONS; p++) {
                years |= lent[oak * PERSONS + p];
            }
            return years;
        }

        int yearsOf(int person) {
            int years = 0;
            for (int oak = 0; oak < OAKS; oak++) {
                years |= with(oak, person);
            }
            return years;
        }

        int heldBy(int person) {
            int sum = 0;
            for (int oak = 0; oak < OAKS; oak++) {
                sum += Integer.bitCount(with(oak, person));
            }
            return sum;
        }

        int holder(int oak, int y) {
            if (!isYear(y)) {
                return NONE;
            }
            for (int p = 0; p < PERSONS; p++) {
                if ((with(oak, p) >> y & 1) == 1) {
                    return p;
                }
            }
            return NONE;
        }

        void give(int oak, int y, int person) {
            bring(oak, y);
            if (oak >= 0 && oak < OAKS && isYear(y) && person >= 0 && person < PERSONS) {
                lent[oak * PERSONS + person] |= 1 << y;
            }
        }

        void bring(int oak, int y) {
            if (oak < 0 || oak >= OAKS || !isYear(y)) {
                return;
            }
            for (int p = 0; p < PERSONS; p++) {
                lent[oak * PERSONS + p] &= ~(1 << y);
            }
        }

        void cutOff(int oak, int y, int person) {
            if (oak < 0 || oak >= OAKS || !isYear(y)) {
                return;
            }
            cut[oak] |= 1 << y;
            if (cuts < GREATEST) {
                cuts++;
            }
            if (written == BOOK) {
                System.arraycopy(pages, 1, pages, 0, BOOK - 1);
                written--;
            }
            if (written >= 0 && written < BOOK) {
                pages[written] = ((day * 8 + person) * 8 + oak) * 32 + y;
                written++;
            }
        }

        int page(int i, int what) {
            if (i < 0 || i >= written || i >= BOOK) {
                return OTHER;
            }
            switch (what) {
                case 0:
                    return pages[i] / 2048;
                case 1:
                    return pages[i] / 256 % 8;
                case 2:
                    return pages[i] / 32 % 8;
                case 3:
                    return pages[i] % 32;
                default:
                    return OTHER;
            }
        }

        int drawn() {
            int was = x;
            x = (x * 499 + 383) % 30689;
            return was;
        }
    }

    /** The latest STEPS, in a round of rows that are made once. */
    static final class Steps {
        final Rings[] rows;
        int first;
        int size;

        Steps() {
            rows = new Rings[STEPS];
            for (int i = 0; i < STEPS; i++) {
                rows[i] = new Rings();
            }
        }

        void push(Rings ahead) {
            Rings row = rowAt(size);
            if (row != null) {
                row.becomes(ahead);
            }
            if (size < STEPS) {
                size++;
            } else {
                first = (first + 1) % STEPS;
            }
        }

        boolean pop(Rings now) {
            if (size <= 0) {
                return false;
            }
            size--;
            Rings row = rowAt(size);
            if (row != null) {
                now.becomes(row);
            }
            return true;
        }

        void becomes(Steps other) {
            first = other.first;
            size = other.size;
            for (int i = 0; i < size; i++) {
                Rings row = rowAt(i);
                Rings model = other.rowAt(i);
                if (row != null && model != null) {
                    row.becomes(model);
                }
            }
        }

        private Rings rowAt(int i) {
            int at = (first + i) % STEPS;
            return at < 0 || at >= STEPS ? null : rows[at];
        }
    }

    /** All that an image keeps. */
    static final class Town {
        final int[] grown;
        final int[] kinds;
        final int[] own;
        final Text[] texts;
        final int[] wanted;
        final int[] taken;
        final int[] marks;
        final int[] prices;
        final int[] saidWho;
        final int[] saidAge;
        final Rings rings;
        final Steps steps;
        int oaks;
        int persons;
        int textCount;
        int ruling;
        int markCount;
        int saidCount;

        Town() {
            grown = new int[OAKS];
            kinds = new int[YEARS];
            own = new int[PERSONS];
            texts = new Text[TEXTS];
            wanted = new int[PERSONS];
            taken = new int[] {15, 15, 15, 15, 15};
            marks = new int[MARKS];
            prices = new int[] {10, 10, 10, 10};
            saidWho = new int[SAID];
            saidAge = new int[SAID];
            rings = new Rings();
            steps = new Steps();
            ruling = NONE;
        }

        void becomes(Town other) {
            System.arraycopy(other.grown, 0, grown, 0, OAKS);
            System.arraycopy(other.kinds, 0, kinds, 0, YEARS);
            System.arraycopy(other.own, 0, own, 0, PERSONS);
            for (int t = 0; t < TEXTS; t++) {
                texts[t] = other.texts[t];
            }
            System.arraycopy(other.wanted, 0, wanted, 0, PERSONS);
            System.arraycopy(other.taken, 0, taken, 0, PERSONS);
            System.arraycopy(other.marks, 0, marks, 0, MARKS);
            System.arraycopy(other.prices, 0, prices, 0, KINDS);
            System.arraycopy(other.saidWho, 0, saidWho, 0, SAID);
            System.arraycopy(other.saidAge, 0, saidAge, 0, SAID);
            rings.becomes(other.rings);
            steps.becomes(other.steps);
            oaks = other.oaks;
            persons = other.persons;
            textCount = other.textCount;
            ruling = other.ruling;
            markCount = other.markCount;
            saidCount = other.saidCount;
        }

        boolean hasOak(int oak) {
            return oak >= 0 && oak < oaks && oak < OAKS;
        }

        boolean hasPerson(int person) {
            return person >= 0 && person < persons && person < PERSONS;
        }

        boolean hadRing(int oak, int y) {
            return hasOak(oak) && isYear(y) && (grown[oak] >> y & 1) == 1;
        }

        int inOak(Rings now, int oak) {
            return hasOak(oak) ? grown[oak] & ~now.goneFrom(oak) : 0;
        }

        boolean isFenced(int oak) {
            return Integer.bitCount(inOak(rings, oak)) <= KEPT;
        }

        Text textAt(int t) {
            return t < 0 || t >= textCount || t >= TEXTS ? null : texts[t];
        }

        Text ruler() {
            return textAt(ruling);
        }

        int kindsOf(int years) {
            int set = 0;
            for (int y = 0; y < YEARS; y++) {
                if ((years >> y & 1) == 1) {
                    set |= 1 << kinds[y];
                }
            }
            return set;
        }

        int yearsOfKinds(int set) {
            int years = 0;
            for (int y = 0; y < YEARS; y++) {
                if ((set >> kinds[y] & 1) == 1) {
                    years |= 1 << y;
                }
            }
            return years;
        }

        boolean marksFit(int y) {
            return y >= 0 && y + markCount <= YEARS;
        }

        int unlikeFrom(int y) {
            int unlike = 0;
            for (int i = 0; i < markCount && i < MARKS; i++) {
                if (isYear(y + i) && kinds[y + i] != marks[i]) {
                    unlike++;
                }
            }
            return unlike;
        }
    }

    /** What the laws say of a RING and a PERSON. */
    static final class Judge {
        private static final int[] LEAST = {-99, -9, 0};
        private static final int[] MOST = {99, 99, 10};
        private static final int BOUND = 1000000;
        private static final int STACK = 80;

        final Town town;
        final int[] stack;
        int top;

        Judge(Town town) {
            this.town = town;
            stack = new int[STACK];
        }

        int says(int law, Text text, Rings rings, int oak, int y, int person) {
            if (law < 0 || law >= LAWS) {
                return 0;
            }
            if (text == null || text.start(law) == NONE) {
                return without(law, isYear(y) ? town.kinds[y] : 0);
            }
            int value = valueOf(text, law, rings, oak, y, person);
            return value < LEAST[law] ? LEAST[law] : value > MOST[law] ? MOST[law] : value;
        }

        private static int without(int law, int kind) {
            if (law == Sign.PAYS) {
                return 7;
            }
            if (law == Sign.LENDS) {
                return 1;
            }
            return kind == 1 ? 2 : kind == 2 ? 0 : 1;
        }

        private int valueOf(Text text, int law, Rings rings, int oak, int y, int person) {
            int at = text.start(law);
            int stop = text.stop(law);
            top = 0;
            for (int n = 0; n < TAPE && at < stop; n++) {
                int sign = text.sign(at);
                int worth = text.worth(at);
                at++;
                if (sign == Sign.NUMBER) {
                    push(worth);
                } else if (sign == Sign.ELSE) {
                    at = worth;
                } else if (sign == Sign.THEN) {
                    at = pop() == 0 ? worth : at;
                } else if (Sign.isName(sign)) {
                    push(named(sign, rings, oak, y, person));
                } else if (Sign.isOfOne(sign)) {
                    push(one(sign, pop(), rings));
                } else {
                    int right = pop();
                    push(two(sign, pop(), right));
                }
            }
            return pop();
        }

        private void push(int value) {
            if (top >= 0 && top < STACK) {
                stack[top] = value;
                top++;
            }
        }

        private int pop() {
            if (top <= 0 || top > STACK) {
                return 0;
            }
            top--;
            return stack[top];
        }

        private int named(int sign, Rings rings, int oak, int y, int person) {
            switch (sign) {
                case Sign.DAY:
                    return rings.day;
                case Sign.YEAR:
                    return y;
                case Sign.KIND:
                    return isYear(y) ? town.kinds[y] : 0;
                case Sign.OAK:
                    return oak;
                case Sign.OWN:
                    return town.hasPerson(person) ? town.own[person] : 0;
                case Sign.HELD:
                    return rings.heldBy(person);
                case Sign.WHO:
                    return person;
                default:
                    return Integer.bitCount(town.inOak(rings, oak));
            }
        }

        private int one(int sign, int value, Rings rings) {
            switch (sign) {
                case Sign.NEGATIVE:
                    return -value;
                case Sign.NOT:
                    return value == 0 ? 1 : 0;
                case Sign.ROOT:
                    return root(value);
                default:
                    return Integer.bitCount(town.inOak(rings, value));
            }
        }

        private static int root(int value) {
            int root = 0;
            for (int bit = 512; bit > 0; bit /= 2) {
                if ((root + bit) * (root + bit) <= value) {
                    root += bit;
                }
            }
            return root;
        }

        private static int two(int sign, int left, int right) {
            switch (sign) {
                case Sign.PLUS:
                    return bounded((long) left + right);
                case Sign.MINUS:
                    return bounded((long) left - right);
                case Sign.TIMES:
                    return bounded((long) left * right);
                case Sign.OVER:
                    return right == 0 ? 0 : left / right;
                case Sign.LESS:
                    return left < right ? 1 : 0;
                case Sign.LESS_OR_LIKE:
                    return left <= right ? 1 : 0;
                case Sign.MORE:
                    return left > right ? 1 : 0;
                case Sign.MORE_OR_LIKE:
                    return left >= right ? 1 : 0;
                case Sign.LIKE:
                    return left == right ? 1 : 0;
                case Sign.UNLIKE:
                    return left != right ? 1 : 0;
                case Sign.AND:
                    return left & right;
                default:
                    return left | right;
            }
        }

        private static int bounded(long value) {
            return value > BOUND ? BOUND : value < -BOUND ? -BOUND : (int) value;
        }
    }

    /** What OAKS that keep their RINGS could lend, by the sets of KINDS that are taken. */
    static final class Counsel {
        final Town town;
        final int[] room;
        final int[] basket;
        int bestRings;
        int bestPrice;

        Counsel(Town town) {
            this.town = town;
            room = new int[KIND_SETS];
            basket = new int[KINDS];
        }

        int needOf(int persons) {
            int sum = 0;
            for (int p = 0; p < PERSONS; p++) {
                if (town.hasPerson(p) && (persons >> p & 1) == 1) {
                    sum += Math.max(0, town.wanted[p] - town.own[p] - town.rings.heldBy(p));
                }
            }
            return sum;
        }

        /** The most that flows is the least cut: some need goes unheard, the rest all that its KINDS leave room for. */
        int lendable(int persons) {
            measure();
            int all = (1 << persons) - 1;
            int least = needOf(all);
            for (int set = 1; set <= all; set++) {
                least = Math.min(least, needOf(all & ~set) + roomOf(set));
            }
            return least;
        }

        int inTheWay() {
            measure();
            int all = (1 << town.persons) - 1;
            int most = 0;
            int who = NONE;
            for (int set = 1; set <= all; set++) {
                int more = needOf(set) - roomOf(set);
                if (more > most) {
                    most = more;
                    who = set;
                }
            }
            return who;
        }

        void shop(int kinds, int n) {
            measure();
            bestRings = NONE;
            bestPrice = NONE;
            // Fewest of 3, then of 2, then of 1 come first, so only what is cheaper is better.
            for (int three = 0; three <= n; three++) {
                for (int two = 0; two <= n - three; two++) {
                    for (int one = 0; one <= n - three - two; one++) {
                        basket[0] = n - three - two - one;
                        basket[1] = one;
                        basket[2] = two;
                        basket[3] = three;
                        weigh(kinds);
                    }
                }
            }
        }

        private void weigh(int kinds) {
            int price = 0;
            for (int k = 0; k < KINDS; k++) {
                if (basket[k] > 0 && (kinds >> k & 1) == 0) {
                    return;
                }
                price += basket[k] * town.prices[k];
            }
            if (bestPrice != NONE && price >= bestPrice || !isThere()) {
                return;
            }
            bestPrice = price;
            bestRings = basket[0] + 10 * basket[1] + 100 * basket[2] + 1000 * basket[3];
        }

        private boolean isThere() {
            for (int set = 1; set < KIND_SETS; set++) {
                int asked = 0;
                for (int k = 0; k < KINDS; k++) {
                    asked += (set >> k & 1) * basket[k];
                }
                if (asked > room[set]) {
                    return false;
                }
            }
            return true;
        }

        private void measure() {
            for (int set = 0; set < KIND_SETS; set++) {
                int years = town.yearsOfKinds(set);
                room[set] = 0;
                for (int oak = 0; oak < town.oaks; oak++) {
                    int in = town.inOak(town.rings, oak);
                    int spare = Math.max(0, Integer.bitCount(in) - KEPT);
                    room[set] += Math.min(spare, Integer.bitCount(in & years));
                }
            }
        }

        private int roomOf(int persons) {
            int kinds = 0;
            for (int p = 0; p < PERSONS; p++) {
                if ((persons >> p & 1) == 1) {
                    kinds |= town.taken[p];
                }
            }
            return kinds < 0 || kinds >= KIND_SETS ? 0 : room[kinds];
        }
    }

    /** In how many of all ways so many RINGS come back. */
    static final class Odds {
        final long[] ways;
        long all;
        int draws;

        Odds() {
            ways = new long[LENT_AT_MOST + 1];
        }

        void begin() {
            for (int i = 0; i <= LENT_AT_MOST; i++) {
                ways[i] = 0;
            }
            ways[0] = 1;
            all = 1;
            draws = 0;
        }

        void draw(int pays) {
            if (draws < 0 || draws >= LENT_AT_MOST) {
                return;
            }
            draws++;
            for (int i = draws; i > 0; i--) {
                ways[i] = ways[i] * (TEN - pays) + ways[i - 1] * pays;
            }
            ways[0] *= TEN - pays;
            all *= TEN;
        }

        long atLeast(int n) {
            long sum = 0;
            for (int i = Math.max(0, n); i <= LENT_AT_MOST; i++) {
                sum += ways[i];
            }
            return sum;
        }

        static long lowest(long upper, long lower, boolean low) {
            long a = lower;
            long b = upper;
            for (int i = 0; i < 1000 && b != 0; i++) {
                long rest = a % b;
                a = b;
                b = rest;
            }
            if (a == 0) {
                return 0;
            }
            return low ? lower / a : upper / a;
        }
    }

    /** The signs that TOKENS are, and that a law's orders are made of. */
    static final class Sign {
        static final int LENDS = 0;
        static final int AGES = 1;
        static final int PAYS = 2;
        static final int OAK = 3;
        static final int YEAR = 4;
        static final int PERSON = 5;
        static final int LEND = 6;
        static final int BACK = 7;
        static final int PASS = 8;
        static final int DAY = 9;
        static final int KIND = 10;
        static final int OWN = 11;
        static final int HELD = 12;
        static final int WHO = 13;
        static final int LEFT = 14;
        static final int OF = 15;
        static final int TO = 16;
        static final int IS = 17;
        static final int ROOT = 18;
        static final int RINGS = 19;
        static final int IF = 20;
        static final int THEN = 21;
        static final int ELSE = 22;
        static final int END = 23;
        static final int OR = 24;
        static final int AND = 25;
        static final int NOT = 26;
        static final int WORDS = 27;
        static final int LESS_OR_LIKE = 27;
        static final int MORE_OR_LIKE = 28;
        static final int LESS = 29;
        static final int MORE = 30;
        static final int LIKE = 31;
        static final int UNLIKE = 32;
        static final int PLUS = 33;
        static final int MINUS = 34;
        static final int TIMES = 35;
        static final int OVER = 36;
        static final int OPEN = 37;
        static final int CLOSE = 38;
        static final int COMMA = 39;
        static final int STOP = 40;
        static final int NUMBER = 41;
        static final int NEGATIVE = 42;
        static final int FINISH = 43;
        static final int WRONG = 44;

        // Each in as many places as the longest and a blank behind it have.
        private static final String SPELT =
            "lends  ages   pays   oak    year   person lend   back   pass   day    kind   own    held   who    left   of     to     is     root   rings  if     then   else   end    or     and    not    ";
        private static final int PLACES = 7;
        private static final String MARKED = "<>=#+-*/(),;";

        private Sign() {
        }

        static boolean isName(int sign) {
            return sign == OAK || sign == YEAR || sign >= DAY && sign <= LEFT;
        }

        static boolean isOfOne(int sign) {
            return sign == NEGATIVE || sign == NOT || sign == ROOT || sign == RINGS;
        }

        static boolean compares(int sign) {
            return sign >= LESS_OR_LIKE && sign <= UNLIKE;
        }

        /** The word from one place of a tape to ahead of another; WRONG if it is none. */
        static int word(char[] tape, int from, int to) {
            int length = to - from;
            if (from < 0 || to > tape.length || length < 1 || length >= PLACES) {
                return WRONG;
            }
            for (int word = 0; word < WORDS; word++) {
                int like = 0;
                while (like < length && SPELT.charAt(word * PLACES + like) == tape[from + like]) {
                    like++;
                }
                if (like == length && SPELT.charAt(word * PLACES + like) == ' ') {
                    return word;
                }
            }
            return WRONG;
        }

        /** The sign that is one character; WRONG if it is none. */
        static int ofCharacter(char character) {
            int at = MARKED.indexOf(character);
            return at < 0 ? WRONG : LESS + at;
        }
    }

    /** A TEXT as it was read: its laws' orders and its CLAUSES. */
    static final class Text {
        static final int WIDTH = 16384;

        final int[] orders;
        final int[] parts;
        final int[] starts;
        final int[] stops;

        Text(int[] orders, int[] parts, int[] starts, int[] stops) {
            this.orders = orders;
            this.parts = parts;
            this.starts = starts;
            this.stops = stops;
        }

        int start(int law) {
            return law < 0 || law >= starts.length ? NONE : starts[law];
        }

        int stop(int law) {
            return law < 0 || law >= stops.length ? NONE : stops[law];
        }

        int sign(int at) {
            return at < 0 || at >= orders.length ? Sign.WRONG : orders[at] / WIDTH;
        }

        int worth(int at) {
            return at < 0 || at >= orders.length ? 0 : orders[at] % WIDTH;
        }

        int clauseCount() {
            return parts.length / PARTS;
        }

        int part(int clause, int which) {
            int at = clause * PARTS + which;
            return at < 0 || at >= parts.length ? 0 : parts[at];
        }
    }

    /** Reads a tape as a TEXT, up to its first FAULT. */
    static final class Reader {
        final int[] signs;
        final int[] worths;
        final int[] places;
        final int[] orders;
        final int[] parts;
        final int[] starts;
        final int[] stops;
        int tokens;
        int at;
        int ordered;
        int clauses;
        int law;
        int fault;
        int faultPlace;

        Reader() {
            signs = new int[TAPE + 1];
            worths = new int[TAPE + 1];
            places = new int[TAPE + 1];
            orders = new int[TAPE];
            parts = new int[CLAUSES * PARTS];
            starts = new int[LAWS];
            stops = new int[LAWS];
        }

        Text read(char[] tape, int length) {
            split(tape, length);
            at = 0;
            ordered = 0;
            clauses = 0;
            fault = 0;
            faultPlace = NONE;
            for (int i = 0; i < LAWS; i++) {
                starts[i] = NONE;
                stops[i] = NONE;
            }
            for (int n = 0; n <= CLAUSES && fault == 0 && here() != Sign.FINISH; n++) {
                readClause();
            }
            if (fault != 0 || ordered < 0 || clauses < 0) {
                return null;
            }
            return new Text(Arrays.copyOf(orders, ordered),
                Arrays.copyOf(parts, clauses * PARTS), starts.clone(), stops.clone());
        }

        private void split(char[] tape, int length) {
            int end = Math.min(length, Math.min(TAPE, tape.length));
            int from = 0;
            tokens = 0;
            for (int n = 0; n < TAPE && from < end; n++) {
                char c = tape[from];
                if (c == ' ' || c == '\n') {
                    from++;
                } else if (isLetter(c)) {
                    int to = from + 1;
                    while (to < end && isLetter(tape[to])) {
                        to++;
                    }
                    add(Sign.word(tape, from, to), 0, from);
                    from = to;
                } else if (isDigit(c)) {
                    int worth = 0;
                    int to = from;
                    while (to < end && isDigit(tape[to])) {
                        worth = Math.min(GREATEST + 1, worth * 10 + tape[to] - '0');
                        to++;
                    }
                    add(Sign.NUMBER, worth, from);
                    from = to;
                } else {
                    boolean wide = (c == '<' || c == '>') && from + 1 < end && tape[from + 1] == '=';
                    int sign = Sign.ofCharacter(c);
                    add(wide ? sign - Sign.LESS + Sign.LESS_OR_LIKE : sign, 0, from);
                    from += wide ? 2 : 1;
                }
            }
            add(Sign.FINISH, 0, end);
        }

        private void add(int sign, int worth, int place) {
            if (tokens >= 0 && tokens <= TAPE) {
                signs[tokens] = sign;
                worths[tokens] = worth;
                places[tokens] = place;
                tokens++;
            }
        }

        private static boolean isLetter(char c) {
            return c >= 'a' && c <= 'z' || c >= 'A' && c <= 'Z';
        }

        private static boolean isDigit(char c) {
            return c >= '0' && c <= '9';
        }

        private int here() {
            return at < 0 || at > TAPE ? Sign.FINISH : signs[at];
        }

        private void fails(int number) {
            if (fault == 0 && at >= 0 && at <= TAPE) {
                fault = number;
                faultPlace = places[at];
            }
        }

        /** Goes past a sign that must stand here. */
        private void expect(int sign) {
            if (fault != 0) {
                return;
            }
            if (here() == sign) {
                at++;
            } else {
                fails(1);
            }
        }

        /** A NUMBER that must stand here, put into a part of the CLAUSE. */
        private void expectNumber(int part, int least, int most) {
            int row = clauses * PARTS + part;
            if (fault != 0 || at < 0 || at > TAPE || row < 0 || row >= CLAUSES * PARTS) {
                return;
            }
            if (here() != Sign.NUMBER) {
                fails(1);
            } else if (worths[at] < least || worths[at] > most) {
                fails(2);
            } else {
                parts[row] = worths[at];
                at++;
            }
        }

        private void readClause() {
            int sign = here();
            if (sign < Sign.LENDS || sign > Sign.DAY) {
                fails(1);
                return;
            }
            boolean isLaw = sign < LAWS;
            if (isLaw && starts[sign] != NONE) {
                fails(4);
                return;
            }
            if (clauses < 0 || clauses >= CLAUSES) {
                fails(6);
                return;
            }
            int row = clauses * PARTS;
            parts[row] = sign;
            parts[row + 1] = 0;
            parts[row + 2] = 0;
            parts[row + 3] = 0;
            at++;
            if (isLaw) {
                law = sign;
                starts[sign] = ordered;
                readSum(0);
                stops[sign] = ordered;
            } else {
                readDeed(sign);
            }
            expect(Sign.STOP);
            clauses++;
        }

        private void readDeed(int sign) {
            switch (sign) {
                case Sign.OAK:
                    readOak();
                    break;
                case Sign.YEAR:
                    expectNumber(1, 0, YEARS - 1);
                    expect(Sign.IS);
                    expectNumber(2, 0, KINDS - 1);
                    break;
                case Sign.PERSON:
                    expectNumber(1, 0, GREATEST_AGE);
                    break;
                case Sign.DAY:
                    expectNumber(1, 1, DAYS_AT_MOST);
                    break;
                default:
                    expectNumber(1, 0, YEARS - 1);
                    expect(Sign.OF);
                    expectNumber(2, 0, OAKS - 1);
                    if (sign != Sign.BACK) {
                        expect(Sign.TO);
                        expectNumber(3, 0, PERSONS - 1);
                    }
            }
        }

        private void readOak() {
            int row = clauses * PARTS + 1;
            if (row < 0 || row >= CLAUSES * PARTS) {
                return;
            }
            int years = 0;
            boolean more = true;
            for (int n = 0; n < TAPE && more; n++) {
                expectNumber(1, 0, YEARS - 1);
                if (fault != 0) {
                    return;
                }
                int year = 1 << parts[row];
                if ((years & year) != 0) {
                    at--;
                    fails(7);
                    return;
                }
                years |= year;
                more = here() == Sign.COMMA;
                at += more ? 1 : 0;
            }
            parts[row] = years;
        }

        private int order(int sign, int worth) {
            if (ordered < 0 || ordered >= TAPE) {
                return NONE;
            }
            orders[ordered] = sign * Text.WIDTH + worth;
            ordered++;
            return ordered - 1;
        }

        /** Lets an earlier order skip to behind the latest one. */
        private void skipToHere(int earlier) {
            if (earlier >= 0 && earlier < TAPE) {
                orders[earlier] = orders[earlier] / Text.WIDTH * Text.WIDTH + ordered;
            }
        }

        private void readSum(int open) {
            readProduct(open);
            for (int n = 0; n < TAPE && fault == 0 && (here() == Sign.PLUS || here() == Sign.MINUS); n++) {
                int sign = here();
                at++;
                readProduct(open);
                order(sign, 0);
            }
        }

        private void readProduct(int open) {
            readOne(open);
            for (int n = 0; n < TAPE && fault == 0 && (here() == Sign.TIMES || here() == Sign.OVER); n++) {
                int sign = here();
                at++;
                readOne(open);
                order(sign, 0);
            }
        }

        private void readOne(int open) {
            int sign = here();
            if (fault != 0 || at < 0 || at > TAPE) {
                return;
            }
            if (sign == Sign.NUMBER) {
                if (worths[at] > GREATEST) {
                    fails(2);
                    return;
                }
                order(sign, worths[at]);
                at++;
            } else if (Sign.isName(sign)) {
                if (sign == Sign.LEFT && law == Sign.AGES) {
                    fails(5);
                    return;
                }
                order(sign, 0);
                at++;
            } else {
                readOpening(sign, open);
            }
        }

        private void readOpening(int sign, int open) {
            boolean opens = sign == Sign.OPEN || sign == Sign.MINUS || sign == Sign.ROOT || sign == Sign.RINGS
                || sign == Sign.IF;
            if (!opens) {
                fails(1);
                return;
            }
            if (open >= OPEN_AT_MOST) {
                fails(3);
                return;
            }
            at++;
            if (sign == Sign.OPEN) {
                readSum(open + 1);
                expect(Sign.CLOSE);
            } else if (sign == Sign.IF) {
                readChoice(open + 1);
            } else {
                readOne(open + 1);
                order(sign == Sign.MINUS ? Sign.NEGATIVE : sign, 0);
            }
        }

        private void readChoice(int open) {
            readEither(open);
            expect(Sign.THEN);
            int toElse = order(Sign.THEN, 0);
            readSum(open);
            expect(Sign.ELSE);
            int toEnd = order(Sign.ELSE, 0);
            skipToHere(toElse);
            readSum(open);
            skipToHere(toEnd);
            expect(Sign.END);
        }

        private void readEither(int open) {
            readBoth(open);
            for (int n = 0; n < TAPE && fault == 0 && here() == Sign.OR; n++) {
                at++;
                readBoth(open);
                order(Sign.OR, 0);
            }
        }

        private void readBoth(int open) {
            readAsk(open);
            for (int n = 0; n < TAPE && fault == 0 && here() == Sign.AND; n++) {
                at++;
                readAsk(open);
                order(Sign.AND, 0);
            }
        }

        private void readAsk(int open) {
            if (fault != 0) {
                return;
            }
            if (here() == Sign.NOT) {
                if (open >= OPEN_AT_MOST) {
                    fails(3);
                    return;
                }
                at++;
                readAsk(open + 1);
                order(Sign.NOT, 0);
                return;
            }
            readSum(open);
            int sign = here();
            if (!Sign.compares(sign)) {
                fails(1);
                return;
            }
            at++;
            readSum(open);
            order(sign, 0);
        }
    }
}
