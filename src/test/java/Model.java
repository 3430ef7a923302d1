import java.math.BigInteger;
import java.nio.ByteBuffer;
import java.util.ArrayDeque;
import java.util.ArrayList;
import java.util.Arrays;
import java.util.Deque;
import java.util.List;
import java.util.Set;
import java.util.TreeSet;

/**
 * The document once more, said as plainly as it can be and by other ways than the program's (trees of nodes, flows by
 * augmenting, odds by counting all ways), for the program to be compared with.
 */
public final class Model {
    static final int NONE = -1;
    static final int IN = -1;
    static final int CUT = 9;
    static final int NEVER = -100;

    // ---- the state that an image keeps

    static final class State implements Cloneable {
        List<Integer> oaks = new ArrayList<>();
        int[] kinds = new int[24];
        List<Integer> own = new ArrayList<>();
        List<Doc> texts = new ArrayList<>();
        int ruling = NONE;
        int[] wanted = new int[5];
        int[] taken = {15, 15, 15, 15, 15};
        List<Integer> marks = new ArrayList<>();
        int[] prices = {10, 10, 10, 10};
        List<int[]> said = new ArrayList<>();
        Moving m = new Moving();
        Deque<Moving> steps = new ArrayDeque<>();

        State copy() {
            State s = new State();
            s.oaks = new ArrayList<>(oaks);
            s.kinds = kinds.clone();
            s.own = new ArrayList<>(own);
            s.texts = new ArrayList<>(texts);
            s.ruling = ruling;
            s.wanted = wanted.clone();
            s.taken = taken.clone();
            s.marks = new ArrayList<>(marks);
            s.prices = prices.clone();
            s.said = new ArrayList<>(said);
            s.m = m.copy();
            for (Moving step : steps) {
                s.steps.addLast(step.copy());
            }
            return s;
        }
    }

    /** What a step changes; where[oak][year] is IN, a person or CUT. */
    static final class Moving {
        int[][] where = new int[5][24];
        int cuts;
        int day;
        long x = 257;
        List<int[]> book = new ArrayList<>();

        Moving() {
            for (int[] row : where) {
                Arrays.fill(row, IN);
            }
        }

        Moving copy() {
            Moving c = new Moving();
            for (int o = 0; o < 5; o++) {
                c.where[o] = where[o].clone();
            }
            c.cuts = cuts;
            c.day = day;
            c.x = x;
            c.book = new ArrayList<>(book);
            return c;
        }
    }

    State s = new State();
    State kept = new State();
    List<Integer> tape = new ArrayList<>();
    int fault = NONE;
    int place = NONE;

    // ---- the language

    static final class Fault extends RuntimeException {
        final int number;
        final int at;

        Fault(int number, int at) {
            super(null, null, false, false);
            this.number = number;
            this.at = at;
        }
    }

    static final class Node {
        final String what;
        final int number;
        final Node[] parts;

        Node(String what, int number, Node... parts) {
            this.what = what;
            this.number = number;
            this.parts = parts;
        }
    }

    static final class Doc {
        Node lends;
        Node ages;
        Node pays;
        List<int[]> deeds = new ArrayList<>();
        List<String> names = new ArrayList<>();
    }

    static final class Token {
        final String sign;
        final int at;

        Token(String sign, int at) {
            this.sign = sign;
            this.at = at;
        }

        boolean isNumber() {
            return !sign.isEmpty() && Character.isDigit(sign.charAt(0));
        }

        int number() {
            return new BigInteger(sign).min(BigInteger.valueOf(99999)).intValue();
        }
    }

    static final class Parser {
        final String text;
        int at = 0;
        final Deque<String> open = new ArrayDeque<>();
        final Doc doc = new Doc();
        String clause;

        Parser(String text) {
            this.text = text;
        }

        Token peek() {
            int i = at;
            while (i < text.length() && (text.charAt(i) == 32 || text.charAt(i) == 10)) {
                i++;
            }
            if (i == text.length()) {
                return new Token("", i);
            }
            String rest = text.substring(i);
            for (String form : new String[] {"[a-zA-Z]+", "[0-9]+", "<=|>=", "[<>=#+*/(),;-]"}) {
                java.util.regex.Matcher found = java.util.regex.Pattern.compile(form).matcher(rest);
                if (found.lookingAt()) {
                    return new Token(found.group(), i);
                }
            }
            return new Token("?", i);
        }

        void skip(Token t) {
            at = t.at + t.sign.length();
        }

        boolean takes(String... signs) {
            Token t = peek();
            if (!t.sign.isEmpty() && Arrays.asList(signs).contains(t.sign)) {
                skip(t);
                return true;
            }
            return false;
        }

        void must(String sign) {
            if (!takes(sign)) {
                throw new Fault(1, peek().at);
            }
        }

        int number(int least, int most) {
            Token t = peek();
            if (!t.isNumber()) {
                throw new Fault(1, t.at);
            }
            if (t.number() < least || t.number() > most) {
                throw new Fault(2, t.at);
            }
            skip(t);
            return t.number();
        }

        Doc all() {
            while (!peek().sign.isEmpty()) {
                Token t = peek();
                List<String> laws = List.of("lends", "ages", "pays");
                List<String> others = List.of("oak", "year", "person", "lend", "back", "pass", "day");
                if (!laws.contains(t.sign) && !others.contains(t.sign)) {
                    throw new Fault(1, t.at);
                }
                if (laws.contains(t.sign) && doc.names.contains(t.sign)) {
                    throw new Fault(4, t.at);
                }
                if (doc.names.size() == 24) {
                    throw new Fault(6, t.at);
                }
                skip(t);
                clause = t.sign;
                int[] deed = new int[3];
                switch (clause) {
                    case "lends": doc.lends = sum(); break;
                    case "ages": doc.ages = sum(); break;
                    case "pays": doc.pays = sum(); break;
                    case "oak":
                        Set<Integer> years = new TreeSet<>();
                        do {
                            Token y = peek();
                            if (!years.add(number(0, 23))) {
                                throw new Fault(7, y.at);
                            }
                        } while (takes(","));
                        for (int y : years) {
                            deed[0] += 1 << y;
                        }
                        break;
                    case "year":
                        deed[0] = number(0, 23);
                        must("is");
                        deed[1] = number(0, 3);
                        break;
                    case "person": deed[0] = number(0, 99); break;
                    case "day": deed[0] = number(1, 60); break;
                    case "back":
                        deed[0] = number(0, 23);
                        must("of");
                        deed[1] = number(0, 4);
                        break;
                    default:
                        deed[0] = number(0, 23);
                        must("of");
                        deed[1] = number(0, 4);
                        must("to");
                        deed[2] = number(0, 4);
                        break;
                }
                must(";");
                doc.names.add(clause);
                doc.deeds.add(deed);
            }
            return doc;
        }

        void opens(Token t) {
            if (open.size() == 8) {
                throw new Fault(3, t.at);
            }
            open.push(t.sign);
            skip(t);
        }

        Node sum() {
            Node left = product();
            for (Token t = peek(); takes("+", "-"); t = peek()) {
                left = new Node(t.sign, 0, left, product());
            }
            return left;
        }

        Node product() {
            Node left = one();
            for (Token t = peek(); takes("*", "/"); t = peek()) {
                left = new Node(t.sign, 0, left, one());
            }
            return left;
        }

        Node one() {
            Token t = peek();
            if (t.isNumber()) {
                return new Node("number", number(0, 9999));
            }
            switch (t.sign) {
                case "day": case "year": case "kind": case "oak": case "own": case "held": case "who":
                    skip(t);
                    return new Node(t.sign, 0);
                case "left":
                    if (clause.equals("ages")) {
                        throw new Fault(5, t.at);
                    }
                    skip(t);
                    return new Node("left", 0);
                case "(": {
                    opens(t);
                    Node inside = sum();
                    must(")");
                    open.pop();
                    return inside;
                }
                case "-": case "root": case "rings": {
                    opens(t);
                    Node of = one();
                    open.pop();
                    return new Node(t.sign + " one", 0, of);
                }
                case "if": {
                    opens(t);
                    Node asked = either();
                    must("then");
                    Node first = sum();
                    must("else");
                    Node second = sum();
                    must("end");
                    open.pop();
                    return new Node("if", 0, asked, first, second);
                }
                default:
                    throw new Fault(1, t.at);
            }
        }

        Node either() {
            Node left = both();
            while (takes("or")) {
                left = new Node("or", 0, left, both());
            }
            return left;
        }

        Node both() {
            Node left = ask();
            while (takes("and")) {
                left = new Node("and", 0, left, ask());
            }
            return left;
        }

        Node ask() {
            Token t = peek();
            if (t.sign.equals("not")) {
                opens(t);
                Node of = ask();
                open.pop();
                return new Node("not", 0, of);
            }
            Node left = sum();
            Token by = peek();
            if (!takes("<", "<=", ">", ">=", "=", "#")) {
                throw new Fault(1, by.at);
            }
            return new Node(by.sign, 0, left, sum());
        }
    }

    private long worth(Node n, Moving m, int oak, int y, int person) {
        if (n.what.equals("if")) {
            return worth(n.parts[worth(n.parts[0], m, oak, y, person) != 0 ? 1 : 2], m, oak, y, person);
        }
        long a = n.parts.length > 0 ? worth(n.parts[0], m, oak, y, person) : 0;
        long b = n.parts.length > 1 ? worth(n.parts[1], m, oak, y, person) : 0;
        long r;
        switch (n.what) {
            case "number": r = n.number; break;
            case "day": r = m.day; break;
            case "year": r = y; break;
            case "kind": r = s.kinds[y]; break;
            case "oak": r = oak; break;
            case "own": r = s.own.get(person); break;
            case "held": r = held(m, person).size(); break;
            case "who": r = person; break;
            case "left": r = in(m, oak).size(); break;
            case "- one": r = -a; break;
            case "root one": r = a < 0 ? 0 : BigInteger.valueOf(a).sqrt().longValue(); break;
            case "rings one": r = a < 0 || a >= s.oaks.size() ? 0 : in(m, (int) a).size(); break;
            case "+": r = a + b; break;
            case "-": r = a - b; break;
            case "*": r = a * b; break;
            case "/": r = b == 0 ? 0 : a / b; break;
            case "<": r = a < b ? 1 : 0; break;
            case "<=": r = a <= b ? 1 : 0; break;
            case ">": r = a > b ? 1 : 0; break;
            case ">=": r = a >= b ? 1 : 0; break;
            case "=": r = a == b ? 1 : 0; break;
            case "#": r = a == b ? 0 : 1; break;
            case "or": r = a + b > 0 ? 1 : 0; break;
            case "and": r = a * b; break;
            case "not": r = 1 - a; break;
            default: throw new IllegalStateException(n.what);
        }
        return Math.max(-1000000, Math.min(1000000, r));
    }

    private Doc ruler() {
        return s.ruling == NONE ? null : s.texts.get(s.ruling);
    }

    private int lendsOf(Moving m, int oak, int y, int person) {
        Node law = ruler() == null ? null : ruler().lends;
        return law == null ? 1 : (int) Math.max(-99, Math.min(99, worth(law, m, oak, y, person)));
    }

    private int paysOf(Moving m, int oak, int y, int person) {
        Node law = ruler() == null ? null : ruler().pays;
        return law == null ? 7 : (int) Math.max(0, Math.min(10, worth(law, m, oak, y, person)));
    }

    private int age(Moving m, Doc doc, int person) {
        int sum = s.own.get(person);
        for (int[] r : held(m, person)) {
            if (doc == null || doc.ages == null) {
                sum += new int[] {1, 2, 0, 1}[s.kinds[r[1]]];
            } else {
                sum += (int) Math.max(-9, Math.min(99, worth(doc.ages, m, r[0], r[1], person)));
            }
        }
        return sum;
    }

    // ---- what is where

    private boolean has(int oak, int y) {
        return isOak(oak) && y >= 0 && y < 24 && (s.oaks.get(oak) >> y) % 2 == 1;
    }

    private boolean isOak(int oak) {
        return oak >= 0 && oak < s.oaks.size();
    }

    private boolean isPerson(int p) {
        return p >= 0 && p < s.own.size();
    }

    /** Of an oak, the years of which the place is this one. */
    private List<Integer> at(Moving m, int oak, int place) {
        List<Integer> years = new ArrayList<>();
        for (int y = 0; y < 24; y++) {
            if (has(oak, y) && m.where[oak][y] == place) {
                years.add(y);
            }
        }
        return years;
    }

    private List<Integer> in(Moving m, int oak) {
        return at(m, oak, IN);
    }

    private List<int[]> held(Moving m, int person) {
        List<int[]> all = new ArrayList<>();
        for (int o = 0; o < s.oaks.size(); o++) {
            for (int y : at(m, o, person)) {
                all.add(new int[] {o, y});
            }
        }
        return all;
    }

    private List<int[]> lent(Moving m, int oak) {
        List<int[]> all = new ArrayList<>();
        for (int y = 0; y < 24; y++) {
            if (has(oak, y) && isPerson(m.where[oak][y])) {
                all.add(new int[] {y, m.where[oak][y]});
            }
        }
        return all;
    }

    private static int bits(Iterable<Integer> all) {
        int set = 0;
        for (int i : all) {
            set |= 1 << i;
        }
        return set;
    }

    private Set<Integer> yearsOf(int person) {
        Set<Integer> years = new TreeSet<>();
        for (int[] r : held(s.m, person)) {
            years.add(r[1]);
        }
        return years;
    }

    private void step() {
        s.steps.addLast(s.m.copy());
        if (s.steps.size() > 30) {
            s.steps.removeFirst();
        }
    }

    private static long next(long x) {
        return (x * 499 + 383) % 30689;
    }

    private int passDay(Moving m) {
        int cut = 0;
        m.day++;
        if (m.day % 30 == 0) {
            for (int o = 0; o < s.oaks.size(); o++) {
                for (int[] r : lent(m, o)) {
                    long draw = m.x % 10;
                    int pays = paysOf(m, o, r[0], r[1]);
                    m.x = next(m.x);
                    if (draw < pays) {
                        m.where[o][r[0]] = IN;
                    } else {
                        m.where[o][r[0]] = CUT;
                        m.cuts = Math.min(9999, m.cuts + 1);
                        m.book.add(new int[] {m.day, r[1], o, r[0]});
                        if (m.book.size() > 30) {
                            m.book.remove(0);
                        }
                        cut++;
                    }
                }
            }
        }
        return cut;
    }

    private boolean mayLend(int oak, int y, int person) {
        return has(oak, y) && isPerson(person) && s.m.where[oak][y] == IN && in(s.m, oak).size() > 9
            && lendsOf(s.m, oak, y, person) > 0;
    }

    private boolean mayPass(int oak, int y, int person) {
        return has(oak, y) && isPerson(person) && isPerson(s.m.where[oak][y]) && s.m.where[oak][y] != person
            && lendsOf(s.m, oak, y, person) > 0;
    }

    private boolean mayReturn(int oak, int y) {
        return has(oak, y) && isPerson(s.m.where[oak][y]);
    }

    // ---- the face

    public int oak(int rings) {
        if (rings < 0 || rings > 0xffffff || s.oaks.size() == 5) {
            return NONE;
        }
        s.oaks.add(rings);
        return s.oaks.size() - 1;
    }

    public boolean year(int y, int kind) {
        if (y < 0 || y > 23 || kind < 0 || kind > 3) {
            return false;
        }
        s.kinds[y] = kind;
        return true;
    }

    public int person(int own) {
        if (own < 0 || own > 99 || s.own.size() == 5) {
            return NONE;
        }
        s.own.add(own);
        return s.own.size() - 1;
    }

    public int feed(int a, int b, int c, int d, int e) {
        if (tape.size() > 280) {
            return NONE;
        }
        for (byte one : ByteBuffer.allocate(20).putInt(a).putInt(b).putInt(c).putInt(d).putInt(e).array()) {
            tape.add(one & 255);
        }
        return tape.size();
    }

    public int end(int n) {
        if (n < 0 || n > tape.size()) {
            return NONE;
        }
        tape = new ArrayList<>(tape.subList(0, n));
        return n;
    }

    public int text() {
        if (s.texts.size() == 4) {
            return NONE;
        }
        StringBuilder all = new StringBuilder();
        for (int b : tape) {
            all.append((char) b);
        }
        tape.clear();
        try {
            s.texts.add(new Parser(all.toString()).all());
            fault = 0;
            place = NONE;
            return s.texts.size() - 1;
        } catch (Fault f) {
            fault = f.number;
            place = f.at;
            return NONE;
        }
    }

    public int fault(int what) {
        return what == 0 ? fault : what == 1 ? place : NONE;
    }

    public boolean by(int text) {
        if (text < NONE || text >= s.texts.size()) {
            return false;
        }
        s.ruling = text;
        return true;
    }

    public boolean lend(int oak, int y, int person) {
        if (!mayLend(oak, y, person)) {
            return false;
        }
        step();
        s.m.where[oak][y] = person;
        return true;
    }

    public boolean returned(int oak, int y) {
        if (!mayReturn(oak, y)) {
            return false;
        }
        step();
        s.m.where[oak][y] = IN;
        return true;
    }

    public boolean pass(int oak, int y, int person) {
        if (!mayPass(oak, y, person)) {
            return false;
        }
        step();
        s.m.where[oak][y] = person;
        return true;
    }

    public int day(int n) {
        if (n < 1 || n > 60 || s.m.day + n > 9999) {
            return NONE;
        }
        int cut = 0;
        for (int i = 0; i < n; i++) {
            step();
            cut += passDay(s.m);
        }
        return cut;
    }

    public int played(int text) {
        if (text < 0 || text >= s.texts.size()) {
            return -2;
        }
        Doc doc = s.texts.get(text);
        for (int i = 0; i < doc.names.size(); i++) {
            int[] d = doc.deeds.get(i);
            boolean went = true;
            switch (doc.names.get(i)) {
                case "oak": went = oak(d[0]) >= 0; break;
                case "year": went = year(d[0], d[1]); break;
                case "person": went = person(d[0]) >= 0; break;
                case "lend": went = lend(d[1], d[0], d[2]); break;
                case "back": went = returned(d[1], d[0]); break;
                case "pass": went = pass(d[1], d[0], d[2]); break;
                case "day":
                    for (int k = 0; k < d[0] && went; k++) {
                        went = day(1) >= 0;
                    }
                    break;
                default: break;
            }
            if (!went) {
                return i;
            }
        }
        return NONE;
    }

    public int winters(int seed, int n) {
        if (seed < 0 || seed > 9999 || n < 1 || n > 40) {
            return NONE;
        }
        step();
        s.m.x = seed * 2 + 257;
        int oaks = s.oaks.size();
        int persons = s.own.size();
        for (int i = 0; i < n; i++) {
            long x = s.m.x;
            s.m.x = next(x);
            int what = (int) (x % 6);
            if (what == 5) {
                if (s.m.day + 30 <= 9999) {
                    for (int k = 0; k < 30; k++) {
                        passDay(s.m);
                    }
                }
                continue;
            }
            if (oaks == 0 || what != 3 && persons == 0) {
                continue;
            }
            int oak = (int) (x % oaks);
            int y = (int) (x / 6 % 24);
            if (what <= 2) {
                int p = (int) (x % persons);
                if (mayLend(oak, y, p)) {
                    s.m.where[oak][y] = p;
                }
            } else if (what == 3) {
                if (mayReturn(oak, y)) {
                    s.m.where[oak][y] = IN;
                }
            } else {
                int p = (int) (x / 5 % persons);
                if (mayPass(oak, y, p)) {
                    s.m.where[oak][y] = p;
                }
            }
        }
        return s.m.day;
    }

    public int undo() {
        if (s.steps.isEmpty()) {
            return NONE;
        }
        s.m = s.steps.removeLast();
        return s.steps.size();
    }

    public int of(int person, int what) {
        if (!isPerson(person)) {
            return NONE;
        }
        switch (what) {
            case 0: return s.own.get(person);
            case 1: return age(s.m, ruler(), person);
            case 2: return held(s.m, person).size();
            case 3: return bits(yearsOf(person));
            case 4:
                Set<Integer> kinds = new TreeSet<>();
                for (int y : yearsOf(person)) {
                    kinds.add(s.kinds[y]);
                }
                return bits(kinds);
            default: return NONE;
        }
    }

    public int ofOak(int oak, int what) {
        if (!isOak(oak)) {
            return NONE;
        }
        switch (what) {
            case 0: return in(s.m, oak).size();
            case 1: return bits(in(s.m, oak));
            case 2: return lent(s.m, oak).size();
            case 3: return at(s.m, oak, CUT).size();
            case 4: return in(s.m, oak).size() > 9 ? 0 : 1;
            default: return NONE;
        }
    }

    public int ring(int oak, int y) {
        return has(oak, y) ? s.m.where[oak][y] : NEVER;
    }

    public int lends(int oak, int y, int person) {
        return has(oak, y) && isPerson(person) ? lendsOf(s.m, oak, y, person) : NEVER;
    }

    public int pays(int oak, int y, int person) {
        return has(oak, y) && isPerson(person) ? paysOf(s.m, oak, y, person) : NEVER;
    }

    public int kindOf(int y) {
        return y < 0 || y > 23 ? NONE : s.kinds[y];
    }

    public int is(int what) {
        switch (what) {
            case 0: return s.m.day;
            case 1: return s.m.cuts;
            case 2: return (int) s.m.x;
            case 3:
                int days = 1;
                while ((s.m.day + days) % 30 != 0) {
                    days++;
                }
                return days;
            default: return -2;
        }
    }

    public int book(int i, int what) {
        if (i == NONE) {
            return s.m.book.size();
        }
        if (i < 0 || i >= s.m.book.size() || what < 0 || what > 3) {
            return -2;
        }
        return s.m.book.get(i)[what];
    }

    public int foretold(int n, int what, int which) {
        if (n < 1 || n > 60 || what < 0 || what > 2 || what == 1 && !isPerson(which) || what == 2 && !isOak(which)) {
            return NONE;
        }
        Moving m = s.m.copy();
        for (int i = 0; i < n && m.day < 9999; i++) {
            passDay(m);
        }
        return what == 0 ? m.cuts : what == 1 ? age(m, ruler(), which) : in(m, which).size();
    }

    public int same(int p, int q) {
        if (!isPerson(p) || !isPerson(q) || p == q) {
            return NONE;
        }
        Set<Integer> both = new TreeSet<>(yearsOf(p));
        both.retainAll(yearsOf(q));
        return bits(both);
    }

    public int kin(int person) {
        if (!isPerson(person)) {
            return NONE;
        }
        Set<Integer> found = new TreeSet<>(Set.of(person));
        boolean more = true;
        while (more) {
            more = false;
            for (int p : new ArrayList<>(found)) {
                for (int q = 0; q < s.own.size(); q++) {
                    if (p != q && same(p, q) != 0) {
                        more |= found.add(q);
                    }
                }
            }
        }
        return bits(found);
    }

    public int twins() {
        int pairs = 0;
        for (int p = 0; p < s.own.size(); p++) {
            for (int q = 0; q < s.own.size(); q++) {
                pairs += p != q && same(p, q) != 0 ? 1 : 0;
            }
        }
        return pairs / 2;
    }

    public int earliest(int person) {
        return !isPerson(person) || yearsOf(person).isEmpty() ? NONE : ((TreeSet<Integer>) yearsOf(person)).first();
    }

    public int newest(int person) {
        return !isPerson(person) || yearsOf(person).isEmpty() ? NONE : ((TreeSet<Integer>) yearsOf(person)).last();
    }

    public boolean wants(int person, int age) {
        if (person < 0 || person > 4 || age < 0 || age > 99) {
            return false;
        }
        s.wanted[person] = age;
        return true;
    }

    public boolean takes(int person, int kinds) {
        if (person < 0 || person > 4 || kinds < 0 || kinds > 15) {
            return false;
        }
        s.taken[person] = kinds;
        return true;
    }

    private int need(int person) {
        return Math.max(0, s.wanted[person] - s.own.get(person) - held(s.m, person).size());
    }

    /** Persons are served one behind the other along augmenting ways; what each is given at last. */
    private int[] served(int persons, boolean endless) {
        int nodes = 5 + 20 + 5 + 2;
        int source = nodes - 2;
        int sink = nodes - 1;
        int[][] room = new int[nodes][nodes];
        for (int o = 0; o < s.oaks.size(); o++) {
            for (int y : in(s.m, o)) {
                room[5 + o * 4 + s.kinds[y]][25 + o]++;
            }
            room[25 + o][sink] = Math.max(0, in(s.m, o).size() - 9);
        }
        int[] given = new int[5];
        for (int p = 0; p < s.own.size(); p++) {
            if ((persons >> p & 1) == 0) {
                continue;
            }
            for (int o = 0; o < 5; o++) {
                for (int k = 0; k < 4; k++) {
                    room[p][5 + o * 4 + k] = (s.taken[p] >> k & 1) * 1000;
                }
            }
            room[source][p] = endless ? 1000 : need(p);
            while (augment(room, source, sink, new boolean[nodes])) {
                given[p]++;
            }
        }
        return given;
    }

    private static boolean augment(int[][] room, int from, int to, boolean[] been) {
        if (from == to) {
            return true;
        }
        been[from] = true;
        for (int next = 0; next < room.length; next++) {
            if (room[from][next] > 0 && !been[next] && augment(room, next, to, been)) {
                room[from][next]--;
                room[next][from]++;
                return true;
            }
        }
        return false;
    }

    public int able() {
        return Arrays.stream(served(31, false)).sum();
    }

    public int needs() {
        int sum = 0;
        for (int p = 0; p < s.own.size(); p++) {
            sum += need(p);
        }
        return sum;
    }

    public int block() {
        int worst = 0;
        int who = NONE;
        for (int set = 1; set < 1 << s.own.size(); set++) {
            int more = -Arrays.stream(served(set, true)).sum();
            for (int p = 0; p < s.own.size(); p++) {
                more += (set >> p & 1) * need(p);
            }
            if (more > worst) {
                worst = more;
                who = set;
            }
        }
        return who;
    }

    public int plan(int person) {
        return isPerson(person) ? served(31, false)[person] : NONE;
    }

    public int vote(int age) {
        if (age < 0 || age > 99) {
            return NONE;
        }
        int best = s.own.isEmpty() ? 0 : Integer.MAX_VALUE;
        for (int set = 0; set < 1 << s.own.size(); set++) {
            if (Integer.bitCount(set) * 2 <= s.own.size()) {
                continue;
            }
            int rings = 0;
            for (int p = 0; p < s.own.size(); p++) {
                rings += (set >> p & 1) * Math.max(0, age - age(s.m, ruler(), p));
            }
            best = Math.min(best, rings);
        }
        return best;
    }

    public int mark(int kind) {
        if (kind == NONE) {
            s.marks.clear();
            return 0;
        }
        if (kind < 0 || kind > 3 || s.marks.size() == 10) {
            return -2;
        }
        s.marks.add(kind);
        return s.marks.size();
    }

    private int unlike(int y) {
        int sum = 0;
        for (int i = 0; i < s.marks.size(); i++) {
            if (y + i > 23) {
                return 1000;
            }
            sum += s.kinds[y + i] != s.marks.get(i) ? 1 : 0;
        }
        return sum;
    }

    public int dated(int unlike) {
        if (unlike < 0 || unlike > 10) {
            return NONE;
        }
        List<Integer> years = new ArrayList<>();
        for (int y = 0; y < 24; y++) {
            if (unlike(y) <= unlike) {
                years.add(y);
            }
        }
        return bits(years);
    }

    public int nearest() {
        int best = NONE;
        for (int y = 23; y >= 0 && !s.marks.isEmpty(); y--) {
            if (unlike(y) < 1000 && (best == NONE || unlike(y) <= unlike(best))) {
                best = y;
            }
        }
        return best;
    }

    public int run(int oak, boolean first) {
        if (!isOak(oak)) {
            return -2;
        }
        for (int length = 24; length > 0; length--) {
            for (int y = 0; y + length <= 24; y++) {
                boolean all = true;
                for (int i = y; i < y + length; i++) {
                    all &= in(s.m, oak).contains(i);
                }
                if (all) {
                    return first ? y : length;
                }
            }
        }
        return first ? NONE : 0;
    }

    public int alike(int a, int b) {
        if (!isOak(a) || !isOak(b)) {
            return NONE;
        }
        int years = 0;
        for (int y = 0; y < 24; y++) {
            years += in(s.m, a).contains(y) == in(s.m, b).contains(y) ? 1 : 0;
        }
        return years;
    }

    private static long term(BigInteger upper, BigInteger lower, boolean low) {
        BigInteger by = upper.gcd(lower);
        return (low ? lower : upper).divide(by).longValueExact();
    }

    public long stands(int oak, int n, boolean low) {
        if (!isOak(oak) || n < 0 || n > 24) {
            return NONE;
        }
        List<int[]> lent = lent(s.m, oak);
        if (lent.size() > 15) {
            return NONE;
        }
        int[] pays = new int[lent.size()];
        for (int i = 0; i < pays.length; i++) {
            pays[i] = paysOf(s.m, oak, lent.get(i)[0], lent.get(i)[1]);
        }
        long sum = 0;
        for (int set = 0; set < 1 << pays.length; set++) {
            if (in(s.m, oak).size() + Integer.bitCount(set) >= n) {
                long ways = 1;
                for (int i = 0; i < pays.length; i++) {
                    ways *= (set >> i & 1) == 1 ? pays[i] : 10 - pays[i];
                }
                sum += ways;
            }
        }
        return term(BigInteger.valueOf(sum), BigInteger.TEN.pow(pays.length), low);
    }

    public long expects(boolean low) {
        long sum = 0;
        for (int o = 0; o < s.oaks.size(); o++) {
            for (int[] r : lent(s.m, o)) {
                sum += 10 - paysOf(s.m, o, r[0], r[1]);
            }
        }
        return term(BigInteger.valueOf(sum), BigInteger.TEN, low);
    }

    public int owed(int person) {
        if (!isPerson(person)) {
            return NONE;
        }
        int sum = 0;
        for (int[] r : held(s.m, person)) {
            sum += s.prices[s.kinds[r[1]]];
        }
        return sum;
    }

    public boolean price(int kind, int price) {
        if (kind < 0 || kind > 3 || price < 0 || price > 99) {
            return false;
        }
        s.prices[kind] = price;
        return true;
    }

    public int cheapest(int person, int n, boolean price) {
        if (!isPerson(person) || n < 1 || n > 9) {
            return NONE;
        }
        // All baskets that OAKS, one behind the other, can fill; a digit a kind.
        boolean[] baskets = new boolean[10000];
        baskets[0] = true;
        for (int o = 0; o < s.oaks.size(); o++) {
            int spare = in(s.m, o).size() - 9;
            int[] there = new int[4];
            for (int y : in(s.m, o)) {
                there[s.kinds[y]] += s.taken[person] >> s.kinds[y] & 1;
            }
            boolean[] more = baskets.clone();
            for (int mine = 1; mine < 10000; mine++) {
                boolean can = digits(mine) <= Math.min(spare, n);
                for (int k = 0; k < 4; k++) {
                    can &= digit(mine, k) <= there[k];
                }
                for (int e = 0; e < 10000 && can; e++) {
                    if (baskets[e] && digits(e) + digits(mine) <= n) {
                        more[e + mine] = true;
                    }
                }
            }
            baskets = more;
        }
        int[] best = null;
        for (int e = 0; e < 10000; e++) {
            int[] of = new int[5];
            for (int k = 0; k < 4; k++) {
                of[0] += digit(e, k) * s.prices[k];
                of[4 - k] = digit(e, k);
            }
            if (baskets[e] && digits(e) == n && (best == null || Arrays.compare(of, best) < 0)) {
                best = of;
            }
        }
        if (best == null) {
            return NONE;
        }
        return price ? best[0] : best[4] + best[3] * 10 + best[2] * 100 + best[1] * 1000;
    }

    private static int digit(int number, int k) {
        for (int i = 0; i < k; i++) {
            number /= 10;
        }
        return number % 10;
    }

    private static int digits(int number) {
        return digit(number, 0) + digit(number, 1) + digit(number, 2) + digit(number, 3);
    }

    public int said(int person, int age) {
        if (person == NONE) {
            s.said.clear();
            return 0;
        }
        if (!isPerson(person) || age < -999 || age > 9999 || s.said.size() == 8) {
            return -2;
        }
        s.said.add(new int[] {person, age});
        return s.said.size();
    }

    public int whose() {
        List<Integer> so = new ArrayList<>();
        for (int t = 0; t < s.texts.size(); t++) {
            Doc doc = s.texts.get(t);
            if (s.said.stream().allMatch(i -> age(s.m, doc, i[0]) == i[1])) {
                so.add(t);
            }
        }
        return bits(so);
    }

    public int eldest() {
        int found = NONE;
        for (int p = s.own.size() - 1; p >= 0; p--) {
            if (found == NONE || of(p, 1) >= of(found, 1)) {
                found = p;
            }
        }
        return found;
    }

    public int left(int y) {
        if (y < 0 || y > 23) {
            return NONE;
        }
        List<Integer> oaks = new ArrayList<>();
        for (int o = 0; o < s.oaks.size(); o++) {
            if (in(s.m, o).contains(y)) {
                oaks.add(o);
            }
        }
        return bits(oaks);
    }

    public int count(int kind) {
        if (kind < 0 || kind > 3) {
            return NONE;
        }
        int sum = 0;
        for (int o = 0; o < s.oaks.size(); o++) {
            for (int y : in(s.m, o)) {
                sum += s.kinds[y] == kind ? 1 : 0;
            }
        }
        return sum;
    }

    public int fenced() {
        int oaks = 0;
        for (int o = 0; o < s.oaks.size(); o++) {
            oaks += ofOak(o, 4) << o;
        }
        return oaks;
    }

    public int bare() {
        int found = NONE;
        for (int o = s.oaks.size() - 1; o >= 0; o--) {
            if (found == NONE || in(s.m, o).size() <= in(s.m, found).size()) {
                found = o;
            }
        }
        return found;
    }

    public int fires() {
        int persons = 0;
        for (int p = 0; p < s.own.size(); p++) {
            persons += (of(p, 4) >> 3) << p;
        }
        return persons;
    }

    public int ledger(int person) {
        if (person != NONE && !isPerson(person)) {
            return -2;
        }
        return (int) s.m.book.stream().filter(c -> person == NONE || c[1] == person).count();
    }

    public int image() {
        kept = s.copy();
        return s.m.day;
    }

    public int back() {
        s = kept.copy();
        return s.m.day;
    }

    public int about(int what) {
        switch (what) {
            case 0: return s.oaks.size();
            case 1: return s.own.size();
            case 2: return s.texts.size();
            case 3: return s.ruling;
            case 4: return s.steps.size();
            case 5: return s.marks.size();
            case 6: return s.said.size();
            case 7: return tape.size();
            default: return -2;
        }
    }
}
