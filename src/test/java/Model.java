import java.util.ArrayDeque;
import java.util.ArrayList;
import java.util.Deque;
import java.util.HashMap;
import java.util.List;
import java.util.Map;
import java.util.Set;
import java.util.TreeSet;

/** The document once more, told with the Java library and without thrift, to be compared with AskedCourt. */
final class Model {
    static final class Fault extends Exception {
        private static final long serialVersionUID = 1L;
        final int number;
        final int place;

        Fault(int number, int place) {
            this.number = number;
            this.place = place;
        }
    }

    record Token(String sign, int place) { }

    static final class ValueError extends Exception {
        private static final long serialVersionUID = 1L;
    }

    interface Expression {
        long value(Map<String, Long> names) throws ValueError;
    }

    static final class Question {
        String kind;
        int supposes;
        int also;
        int asks;

        List<Integer> counting() {
            List<Integer> facts = new ArrayList<>();
            if (supposes >= 0) {
                facts.add(supposes);
            }
            if (kind.equals("double") && also >= 0) {
                facts.add(also);
            }
            return facts;
        }
    }

    static final class Told {
        final List<String> facts = new ArrayList<>();
        final List<String> persons = new ArrayList<>();
        final List<String> questionNames = new ArrayList<>();
        final List<int[]> traits = new ArrayList<>();
        final List<Set<Integer>> knows = new ArrayList<>();
        final List<Question> questions = new ArrayList<>();
        final List<int[]> talk = new ArrayList<>();
        final Map<String, Expression> laws = new HashMap<>();
        Integer nine;
        Integer seed;
        int knots;
        int lines;
    }

    static final class Now {
        final List<Set<Integer>> knows = new ArrayList<>();
        int[] rooms;
        int[] lost;
        int[] asked;
        int[] wits;
        int day;
        int total;
        long number;
        Set<Integer> gone = new TreeSet<>();
        int noQuestion = -1;
        boolean mute;

        Now copy() {
            Now n = new Now();
            for (Set<Integer> k : knows) {
                n.knows.add(new TreeSet<>(k));
            }
            n.rooms = rooms.clone();
            n.lost = lost.clone();
            n.asked = asked.clone();
            n.wits = wits.clone();
            n.day = day;
            n.total = total;
            n.number = number;
            n.gone.addAll(gone);
            n.noQuestion = noQuestion;
            n.mute = mute;
            return n;
        }

        int sum() {
            int sum = 0;
            for (int p = 0; p < knows.size(); p++) {
                sum += gone.contains(p) ? 0 : knows.get(p).size();
            }
            return sum;
        }
    }

    record Note(boolean isStrike, int struck, int n, int person, int fact, boolean is) { }

    Told told = new Told();
    Now now = beginning(told);
    Now image;
    final Deque<Now> undo = new ArrayDeque<>();
    final List<Note> notes = new ArrayList<>();
    int knownBy = -1;
    final List<Integer> tape = new ArrayList<>();
    int fault;
    int place = -1;

    static Now beginning(Told told) {
        Now n = new Now();
        int size = told.persons.size();
        n.rooms = new int[size];
        n.lost = new int[size];
        n.asked = new int[size];
        n.wits = new int[size];
        for (int p = 0; p < size; p++) {
            n.knows.add(new TreeSet<>(told.knows.get(p)));
            n.rooms[p] = told.traits.get(p)[2];
            n.wits[p] = told.traits.get(p)[1];
        }
        n.number = told.seed == null ? 0 : told.seed;
        return n;
    }

    // ---- reading

    static final Set<String> LANGUAGE = Set.of("fact", "person", "knows", "ask", "talk", "nine", "seed", "law", "plain",
            "double", "back", "idle", "none", "slip", "hear", "or", "and", "not", "lips", "wit", "lost", "heard", "room",
            "kind", "day");
    static final List<String> NAMES = List.of("lips", "wit", "lost", "heard", "room", "kind", "day");

    static final class Parser {
        final List<Token> tokens = new ArrayList<>();
        final Told told = new Told();
        int at;
        int open;

        Parser(String text) {
            int i = 0;
            while (i < text.length()) {
                char c = text.charAt(i);
                int from = i;
                if (c == ' ' || c == '\n') {
                    i++;
                    continue;
                } else if (c >= 'a' && c <= 'z') {
                    while (i < text.length() && text.charAt(i) >= 'a' && text.charAt(i) <= 'z') {
                        i++;
                    }
                } else if (c >= '0' && c <= '9') {
                    while (i < text.length() && text.charAt(i) >= '0' && text.charAt(i) <= '9') {
                        i++;
                    }
                } else if (text.startsWith("<=", i) || text.startsWith(">=", i) || text.startsWith("<>", i)) {
                    i += 2;
                } else {
                    i++;
                }
                tokens.add(new Token(text.substring(from, i), from));
            }
            tokens.add(new Token("", text.length()));
        }

        Token peek() {
            return tokens.get(at);
        }

        Token pull() {
            return tokens.get(at++);
        }

        boolean isWord(Token t) {
            return !t.sign.isEmpty() && t.sign.charAt(0) >= 'a' && t.sign.charAt(0) <= 'z';
        }

        boolean isNumber(Token t) {
            return !t.sign.isEmpty() && t.sign.charAt(0) >= '0' && t.sign.charAt(0) <= '9';
        }

        void want(String sign) throws Fault {
            Token t = peek();
            if (!t.sign.equals(sign)) {
                throw new Fault(1, t.place);
            }
            at++;
        }

        Token name() throws Fault {
            Token t = peek();
            if (!isWord(t) || t.sign.length() > 6 || LANGUAGE.contains(t.sign)) {
                throw new Fault(1, t.place);
            }
            at++;
            return t;
        }

        int number(int most) throws Fault {
            Token t = peek();
            if (!isNumber(t)) {
                throw new Fault(1, t.place);
            }
            at++;
            java.math.BigInteger value = new java.math.BigInteger(t.sign);
            if (value.compareTo(java.math.BigInteger.valueOf(most)) > 0) {
                throw new Fault(2, t.place);
            }
            return value.intValue();
        }

        void add(List<String> names) throws Fault {
            Token t = name();
            if (names.contains(t.sign)) {
                throw new Fault(3, t.place);
            }
            names.add(t.sign);
        }

        int find(List<String> names) throws Fault {
            Token t = name();
            if (!names.contains(t.sign)) {
                throw new Fault(4, t.place);
            }
            return names.indexOf(t.sign);
        }

        int some() throws Fault {
            if (peek().sign.equals("none")) {
                at++;
                return -1;
            }
            return find(told.facts);
        }

        Told parse() throws Fault {
            while (!peek().sign.isEmpty()) {
                line(pull());
                want(";");
                told.lines++;
            }
            return told;
        }

        void line(Token word) throws Fault {
            switch (word.sign) {
                case "fact" -> {
                    limit(word, told.facts.size(), 8);
                    add(told.facts);
                }
                case "person" -> {
                    limit(word, told.persons.size(), 5);
                    add(told.persons);
                    told.traits.add(new int[] {number(9), number(9), number(3)});
                    told.knows.add(new TreeSet<>());
                }
                case "knows" -> {
                    int person = find(told.persons);
                    int where = peek().place;
                    int fact = find(told.facts);
                    if (!told.knows.get(person).add(fact)) {
                        throw new Fault(3, where);
                    }
                }
                case "ask" -> {
                    limit(word, told.questions.size(), 8);
                    add(told.questionNames);
                    Question q = new Question();
                    Token kind = pull();
                    if (!List.of("plain", "double", "back", "idle").contains(kind.sign)) {
                        throw new Fault(1, kind.place);
                    }
                    q.kind = kind.sign;
                    q.supposes = some();
                    q.also = some();
                    q.asks = some();
                    told.questions.add(q);
                }
                case "talk" -> {
                    limit(word, told.talk.size(), 10);
                    int one = find(told.persons);
                    int where = peek().place;
                    int other = find(told.persons);
                    if (one == other) {
                        throw new Fault(5, where);
                    }
                    told.talk.add(new int[] {one, other, find(told.questionNames)});
                }
                case "nine" -> {
                    if (told.nine != null) {
                        throw new Fault(3, word.place);
                    }
                    told.nine = number(99);
                }
                case "seed" -> {
                    if (told.seed != null) {
                        throw new Fault(3, word.place);
                    }
                    told.seed = number(99999);
                }
                case "law" -> {
                    Token which = pull();
                    if (!which.sign.equals("slip") && !which.sign.equals("hear")) {
                        throw new Fault(1, which.place);
                    }
                    if (told.laws.containsKey(which.sign)) {
                        throw new Fault(3, which.place);
                    }
                    told.laws.put(which.sign, whole());
                }
                default -> throw new Fault(1, word.place);
            }
        }

        void limit(Token word, int size, int most) throws Fault {
            if (size >= most) {
                throw new Fault(2, word.place);
            }
        }

        void knot(Token t) throws Fault {
            told.knots++;
            if (told.knots > 64) {
                throw new Fault(2, t.place);
            }
        }

        Expression whole() throws Fault {
            Expression left = conjunction();
            while (peek().sign.equals("or")) {
                knot(pull());
                left = join("or", left, conjunction());
            }
            return left;
        }

        Expression conjunction() throws Fault {
            Expression left = negation();
            while (peek().sign.equals("and")) {
                knot(pull());
                left = join("and", left, negation());
            }
            return left;
        }

        Expression negation() throws Fault {
            if (peek().sign.equals("not")) {
                knot(pull());
                Expression inner = negation();
                return names -> inner.value(names) == 0 ? 1 : 0;
            }
            Expression left = sum();
            if (List.of("<", "<=", "=", "<>", ">=", ">").contains(peek().sign)) {
                Token sign = pull();
                knot(sign);
                return join(sign.sign, left, sum());
            }
            return left;
        }

        Expression sum() throws Fault {
            Expression left = term();
            while (peek().sign.equals("+") || peek().sign.equals("-")) {
                Token sign = pull();
                knot(sign);
                left = join(sign.sign, left, term());
            }
            return left;
        }

        Expression term() throws Fault {
            Expression left = primary();
            while (peek().sign.equals("*") || peek().sign.equals("/")) {
                Token sign = pull();
                knot(sign);
                left = join(sign.sign, left, primary());
            }
            return left;
        }

        Expression primary() throws Fault {
            Token t = peek();
            if (t.sign.equals("(")) {
                at++;
                if (open == 8) {
                    throw new Fault(2, t.place);
                }
                open++;
                Expression inner = whole();
                want(")");
                open--;
                return inner;
            }
            if (NAMES.contains(t.sign)) {
                at++;
                knot(t);
                return names -> names.get(t.sign);
            }
            long value = number(9999);
            knot(t);
            return names -> value;
        }

        static Expression join(String sign, Expression a, Expression b) {
            return names -> {
                java.math.BigInteger x = java.math.BigInteger.valueOf(a.value(names));
                java.math.BigInteger y = java.math.BigInteger.valueOf(b.value(names));
                java.math.BigInteger zero = java.math.BigInteger.ZERO;
                int c = x.compareTo(y);
                java.math.BigInteger z;
                switch (sign) {
                    case "or": z = bit(!x.equals(zero) || !y.equals(zero)); break;
                    case "and": z = bit(!x.equals(zero) && !y.equals(zero)); break;
                    case "<": z = bit(c < 0); break;
                    case "<=": z = bit(c <= 0); break;
                    case "=": z = bit(c == 0); break;
                    case "<>": z = bit(c != 0); break;
                    case ">=": z = bit(c >= 0); break;
                    case ">": z = bit(c > 0); break;
                    case "+": z = x.add(y); break;
                    case "-": z = x.subtract(y); break;
                    case "*": z = x.multiply(y); break;
                    default:
                        if (y.equals(zero)) {
                            throw new ValueError();
                        }
                        z = x.divide(y);
                }
                if (z.abs().compareTo(java.math.BigInteger.TEN.pow(12)) > 0) {
                    throw new ValueError();
                }
                return z.longValue();
            };
        }

        static java.math.BigInteger bit(boolean is) {
            return is ? java.math.BigInteger.ONE : java.math.BigInteger.ZERO;
        }
    }

    int feed(int... five) {
        if (tape.size() + 20 > 700) {
            return -1;
        }
        for (int number : five) {
            for (int shift = 24; shift >= 0; shift -= 8) {
                tape.add(number >>> shift & 255);
            }
        }
        return tape.size();
    }

    int text(int n) {
        if (n < 0 || n > tape.size()) {
            return -2;
        }
        StringBuilder text = new StringBuilder();
        for (int i = 0; i < n; i++) {
            text.append((char) (int) tape.get(i));
        }
        tape.clear();
        try {
            told = new Parser(text.toString()).parse();
        } catch (Fault f) {
            fault = f.number;
            place = f.place;
            return -1;
        }
        fault = 0;
        place = -1;
        now = beginning(told);
        image = null;
        undo.clear();
        notes.clear();
        knownBy = -1;
        return told.lines;
    }

    // ---- rules

    int persons() {
        return told.persons.size();
    }

    int facts() {
        return told.facts.size();
    }

    int questions() {
        return told.questions.size();
    }

    boolean isPerson(int p) {
        return p >= 0 && p < persons();
    }

    boolean isFact(int f) {
        return f >= 0 && f < facts();
    }

    boolean isQuestion(int q) {
        return q >= 0 && q < questions();
    }

    Long worth(String law, Now n, int person, int question) {
        Expression e = told.laws.get(law);
        if (e == null) {
            return null;
        }
        Map<String, Long> names = new HashMap<>();
        names.put("lips", (long) told.traits.get(person)[0]);
        names.put("wit", (long) n.wits[person]);
        names.put("lost", (long) n.lost[person]);
        names.put("heard", (long) n.knows.get(person).size());
        names.put("room", (long) n.rooms[person]);
        names.put("kind", (long) List.of("plain", "double", "back", "idle").indexOf(told.questions.get(question).kind));
        names.put("day", (long) n.day);
        try {
            return e.value(names);
        } catch (ValueError x) {
            return null;
        }
    }

    boolean able(Now n, int one, int other, int question, boolean nineMatters) {
        if (n.gone.contains(one) || n.gone.contains(other) || question == n.noQuestion || n.rooms[one] != n.rooms[other]) {
            return false;
        }
        if (nineMatters && n.asked[one] >= (told.nine == null ? 9 : told.nine)) {
            return false;
        }
        return n.knows.get(one).containsAll(told.questions.get(question).counting());
    }

    boolean put(Now n, int one, int other, int question, boolean numbers) {
        Question q = told.questions.get(question);
        n.asked[one]++;
        n.total++;
        List<Integer> here = new ArrayList<>();
        for (int p = 0; p < persons(); p++) {
            if (n.rooms[p] == n.rooms[one] && !n.gone.contains(p)) {
                here.add(p);
            }
        }
        for (int p : here) {
            if (p != one) {
                Long e = worth("hear", n, p, question);
                boolean hears = e != null ? e != 0 : !q.kind.equals("back") || n.wits[p] >= 5;
                if (hears) {
                    n.knows.get(p).addAll(q.counting());
                }
            }
        }
        if (q.kind.equals("idle") || q.asks < 0 || !n.knows.get(other).contains(q.asks) || n.mute) {
            return false;
        }
        Long e = worth("slip", n, other, question);
        long slip = Math.max(0, Math.min(100, e != null ? e : 10 * told.traits.get(other)[0]));
        boolean slips = slip >= 50;
        if (numbers) {
            slips = slip == 100;
            if (slip > 0 && slip < 100) {
                n.number = (n.number * 1103515245L + 12345L) % (1L << 31);
                slips = slip > n.number / 65536 % 100;
            }
        }
        if (slips) {
            for (int p : here) {
                n.knows.get(p).add(q.asks);
            }
            n.lost[other]++;
        }
        return slips;
    }

    Now settled(Now from) {
        Now n = from.copy();
        while (true) {
            int before = 0;
            for (Set<Integer> k : n.knows) {
                before += k.size();
            }
            for (int one = 0; one < persons(); one++) {
                for (int other = 0; other < persons(); other++) {
                    for (int q = 0; q < questions(); q++) {
                        if (one != other && able(n, one, other, q, false)) {
                            put(n, one, other, q, false);
                        }
                    }
                }
            }
            int after = 0;
            for (Set<Integer> k : n.knows) {
                after += k.size();
            }
            if (after == before) {
                return n;
            }
        }
    }

    static int bits(Iterable<Integer> set) {
        int bits = 0;
        for (int i : set) {
            bits |= 1 << i;
        }
        return bits;
    }

    // ---- the face

    int named(int what, int letters) {
        List<String> names = what == 0 ? told.facts : what == 1 ? told.persons : what == 2 ? told.questionNames : List.of();
        for (int i = 0; i < names.size(); i++) {
            if (Checks.letters(names.get(i)) == letters) {
                return i;
            }
        }
        return -1;
    }

    /** -1000: IndexOutOfBoundsException, -2000: NoSuchElementException. */
    int person(int p, int what) {
        if (!isPerson(p)) {
            return -1000;
        }
        return switch (what) {
            case 0, 1 -> told.traits.get(p)[what];
            case 2 -> now.rooms[p];
            case 3 -> bits(now.knows.get(p));
            case 4 -> now.lost[p];
            case 5 -> now.asked[p];
            default -> -2000;
        };
    }

    int question(int question, int what) {
        if (!isQuestion(question)) {
            return -2;
        }
        Question q = told.questions.get(question);
        return switch (what) {
            case 0 -> List.of("plain", "double", "back", "idle").indexOf(q.kind);
            case 1 -> q.supposes;
            case 2 -> q.also;
            case 3 -> q.asks;
            default -> -2;
        };
    }

    int can(int one, int other, int question) {
        if (!isPerson(one) || !isPerson(other) || one == other || !isQuestion(question)) {
            return -1;
        }
        return able(now, one, other, question, true) ? 1 : 0;
    }

    long law(int what, int person, int question) {
        if (what < 0 || what > 1 || !isPerson(person) || !isQuestion(question)) {
            return Long.MIN_VALUE;
        }
        Long e = worth(what == 0 ? "slip" : "hear", now, person, question);
        return e == null ? Long.MIN_VALUE : e;
    }

    void remember() {
        undo.push(now.copy());
        if (undo.size() > 20) {
            undo.removeLast();
        }
    }

    int ask(int one, int other, int question) {
        int can = can(one, other, question);
        if (can != 1) {
            return can == 0 ? -2 : -1;
        }
        remember();
        return put(now, one, other, question, true) ? 1 : 0;
    }

    boolean tell(int person, int fact) {
        if (!isPerson(person) || !isFact(fact) || now.knows.get(person).contains(fact)) {
            return false;
        }
        remember();
        now.knows.get(person).add(fact);
        return true;
    }

    boolean send(int person, int room) {
        if (!isPerson(person) || room < 0 || room > 3 || now.rooms[person] == room) {
            return false;
        }
        remember();
        now.rooms[person] = room;
        return true;
    }

    int end() {
        if (now.day == 999) {
            return -1;
        }
        remember();
        now.day++;
        now.asked = new int[persons()];
        return now.day;
    }

    int all(int person) {
        return isPerson(person) ? bits(settled(now).knows.get(person)) : -1;
    }

    int never(int person, int fact) {
        if (!isPerson(person) || !isFact(fact)) {
            return -1;
        }
        return settled(now).knows.get(person).contains(fact) ? 0 : 1;
    }

    int away(int person, int fact) {
        if (!isPerson(person) || !isFact(fact)) {
            return -1;
        }
        int best = -2;
        for (int bits = (1 << persons()) - 1; bits >= 0; bits--) {
            if ((bits >> person & 1) == 1) {
                continue;
            }
            Now n = now.copy();
            for (int p = 0; p < persons(); p++) {
                if ((bits >> p & 1) == 1) {
                    n.gone.add(p);
                }
            }
            if (!settled(n).knows.get(person).contains(fact)
                    && (best == -2 || Integer.bitCount(bits) <= Integer.bitCount(best))) {
                best = bits;
            }
        }
        return best;
    }

    int spread(int fact) {
        return isFact(fact) ? knowers(settled(now), fact) : -1;
    }

    int knowers(Now n, int fact) {
        int bits = 0;
        for (int p = 0; p < persons(); p++) {
            bits |= n.knows.get(p).contains(fact) ? 1 << p : 0;
        }
        return bits;
    }

    int hint(int person, int fact, int what) {
        if (!isPerson(person) || !isFact(fact) || what < 0 || what > 1) {
            return -1;
        }
        if (never(person, fact) == 0) {
            return -2;
        }
        for (int who = 0; who < persons(); who++) {
            for (int f = 0; f < facts(); f++) {
                Now n = now.copy();
                if (f != fact && n.knows.get(who).add(f) && settled(n).knows.get(person).contains(fact)) {
                    return what == 0 ? who : f;
                }
            }
        }
        return -2;
    }

    int unasked(int person) {
        if (!isPerson(person)) {
            return -1;
        }
        int bits = (1 << questions()) - 1;
        for (int q = 0; q < questions(); q++) {
            for (int other = 0; other < persons(); other++) {
                if (can(person, other, q) == 1) {
                    bits &= ~(1 << q);
                }
            }
        }
        return bits;
    }

    int inRoom(int person, int room) {
        if (!isPerson(person) || room < 0 || room > 3) {
            return -1;
        }
        Now n = now.copy();
        n.rooms[person] = room;
        return settled(n).sum();
    }

    int bestRoom(int person) {
        if (!isPerson(person)) {
            return -1;
        }
        int best = 0;
        for (int room = 1; room < 4; room++) {
            best = inRoom(person, room) > inRoom(person, best) ? room : best;
        }
        return best;
    }

    /** All rows of so many questions that can be put one behind another, in order. */
    List<List<int[]>> rows(Now from, int many) {
        List<List<int[]>> rows = new ArrayList<>();
        if (many == 0) {
            rows.add(new ArrayList<>());
            return rows;
        }
        for (int one = 0; one < persons(); one++) {
            for (int other = 0; other < persons(); other++) {
                for (int q = 0; q < questions(); q++) {
                    if (one != other && able(from, one, other, q, true)) {
                        Now n = from.copy();
                        put(n, one, other, q, false);
                        for (List<int[]> rest : rows(n, many - 1)) {
                            rest.add(0, new int[] {one, other, q});
                            rows.add(rest);
                        }
                    }
                }
            }
        }
        return rows;
    }

    Now played(List<int[]> row) {
        Now n = now.copy();
        for (int[] q : row) {
            put(n, q[0], q[1], q[2], false);
        }
        return n;
    }

    /** null: no such ones; else the row, or an empty array of one null for by none. */
    List<int[]> findWay(int person, int fact, int others, int n) {
        int before = knowers(now, fact);
        for (int many = 0; many <= n; many++) {
            for (List<int[]> row : rows(now, many)) {
                int after = knowers(played(row), fact);
                if ((after >> person & 1) == 1 && (after & ~before & others) == 0) {
                    return row;
                }
            }
        }
        return null;
    }

    boolean isWay(int person, int fact, int others, int n) {
        return isPerson(person) && isFact(fact) && others >= 0 && others < 1 << persons() && (n == 1 || n == 2)
                && (others >> person & 1) == 0;
    }

    int way(int person, int fact, int others, int n) {
        if (!isWay(person, fact, others, n)) {
            return -1;
        }
        List<int[]> row = findWay(person, fact, others, n);
        return row == null ? -2 : row.size();
    }

    int step(int person, int fact, int others, int n, int k) {
        if (!isWay(person, fact, others, n) || k < 0) {
            return -1;
        }
        List<int[]> row = findWay(person, fact, others, n);
        return row == null || k >= row.size() ? -2 : 100 * row.get(k)[0] + 10 * row.get(k)[1] + row.get(k)[2];
    }

    int care(int person) {
        if (!isPerson(person)) {
            return -1;
        }
        int bits = 0;
        for (int q = 0; q < questions(); q++) {
            for (int one = 0; one < persons(); one++) {
                if (can(one, person, q) == 1 && put(now.copy(), one, person, q, false)) {
                    for (int p = 0; p < persons(); p++) {
                        if (p != person && now.rooms[p] == now.rooms[person]
                                && !now.knows.get(p).contains(told.questions.get(q).asks)) {
                            bits |= 1 << q;
                        }
                    }
                }
            }
        }
        return bits;
    }

    int best(int person, int n, int what) {
        if (!isPerson(person) || n < 1 || n > 2 || what < 0 || what > 2) {
            return -1;
        }
        List<int[]> best = null;
        for (List<int[]> row : rows(now, n)) {
            if (row.stream().allMatch(q -> q[0] == person)
                    && (best == null || played(row).sum() > played(best).sum())) {
                best = row;
            }
        }
        if (best == null) {
            return -3;
        }
        if (what == 0) {
            return played(best).sum();
        }
        return what > n ? -2 : 10 * best.get(what - 1)[1] + best.get(what - 1)[2];
    }

    int[] duel(int one, int other, int a, int b) {
        Now n = now.copy();
        if (a < questions() && able(n, one, other, a, true)) {
            put(n, one, other, a, false);
        }
        if (b < questions() && able(n, other, one, b, true)) {
            put(n, other, one, b, false);
        }
        int[] has = new int[2];
        int[] who = {one, other};
        for (int i = 0; i < 2; i++) {
            has[i] = n.knows.get(who[i]).size() - now.knows.get(who[i]).size() - 2 * (n.lost[who[i]] - now.lost[who[i]]);
        }
        return has;
    }

    List<Integer> restList(int one, int other) {
        List<Integer> rests = new ArrayList<>();
        for (int a = 0; a <= questions(); a++) {
            for (int b = 0; b <= questions(); b++) {
                int[] has = duel(one, other, a, b);
                boolean rest = true;
                for (int c = 0; c <= questions(); c++) {
                    rest &= duel(one, other, c, b)[0] <= has[0] && duel(one, other, a, c)[1] <= has[1];
                }
                if (rest) {
                    rests.add(100 * a + b);
                }
            }
        }
        return rests;
    }

    boolean isDuel(int one, int other) {
        return isPerson(one) && isPerson(other) && one != other && now.rooms[one] == now.rooms[other];
    }

    int rests(int one, int other) {
        return isDuel(one, other) ? restList(one, other).size() : -1;
    }

    int rest(int one, int other, int k) {
        if (!isDuel(one, other) || k < 0) {
            return -1;
        }
        List<Integer> rests = restList(one, other);
        return k < rests.size() ? rests.get(k) : -2;
    }

    void hold(Now n, int many, boolean numbers) {
        for (int[] t : told.talk.subList(0, many)) {
            if (able(n, t[0], t[1], t[2], false)) {
                put(n, t[0], t[1], t[2], numbers);
            }
        }
    }

    int slipped(int person) {
        if (!isPerson(person)) {
            return -1;
        }
        Now n = beginning(told);
        hold(n, told.talk.size(), false);
        return n.lost[person];
    }

    int behind(int many, int person) {
        if (!isPerson(person) || many < 0 || many > told.talk.size()) {
            return -1;
        }
        Now n = beginning(told);
        hold(n, many, false);
        return bits(n.knows.get(person));
    }

    int note(int n, int person, int fact, boolean is) {
        if (!isPerson(person) || !isFact(fact) || n < 0 || n > told.talk.size() || notes.size() == 24) {
            return -1;
        }
        notes.add(new Note(false, -1, n, person, fact, is));
        return notes.size() - 1;
    }

    int strike(int note) {
        if (note < 0 || note >= notes.size() || notes.size() == 24) {
            return -1;
        }
        notes.add(new Note(true, note, 0, 0, 0, false));
        return notes.size() - 1;
    }

    boolean known(int n) {
        if (n < -1 || n > notes.size()) {
            return false;
        }
        knownBy = n;
        return true;
    }

    /** A note is struck if a strike of it, among those that count, isn't struck itself. */
    boolean isStruck(int note, int count) {
        for (int i = note + 1; i < count; i++) {
            if (notes.get(i).isStrike && notes.get(i).struck == note && !isStruck(i, count)) {
                return true;
            }
        }
        return false;
    }

    int knew(int person) {
        if (!isPerson(person)) {
            return -1;
        }
        int count = knownBy < 0 ? notes.size() : knownBy;
        int bits = 0;
        for (int f = 0; f <= facts(); f++) {
            boolean so = true;
            for (int i = 0; i < count; i++) {
                Note note = notes.get(i);
                if (!note.isStrike && !isStruck(i, count)) {
                    Now n = beginning(told);
                    if (f < facts()) {
                        n.knows.get(person).add(f);
                    }
                    hold(n, note.n, false);
                    so &= n.knows.get(note.person).contains(note.fact) == note.is;
                }
            }
            bits |= so ? 1 << f : 0;
        }
        return bits;
    }

    int chance(int seed, int person, int fact) {
        if (seed < 0 || !isPerson(person) || !isFact(fact)) {
            return -1;
        }
        int times = 0;
        long number = seed;
        for (int i = 0; i < 10; i++) {
            Now n = now.copy();
            n.number = number;
            hold(n, told.talk.size(), true);
            number = n.number;
            times += n.knows.get(person).contains(fact) ? 1 : 0;
        }
        return times;
    }

    int tried(int what, int i) {
        Now n = now.copy();
        if ((what == 0 || what == 1 || what == 4) && i != 0) {
            return -1;
        }
        switch (what) {
            case 0 -> n.mute = true;
            case 1 -> n.rooms = new int[persons()];
            case 2 -> {
                if (!isPerson(i)) {
                    return -1;
                }
                n.gone.add(i);
            }
            case 3 -> {
                if (!isQuestion(i)) {
                    return -1;
                }
                n.noQuestion = i;
            }
            case 4 -> java.util.Arrays.fill(n.wits, 9);
            default -> {
                return -1;
            }
        }
        return settled(n).sum();
    }

    int undo() {
        if (undo.isEmpty()) {
            return -1;
        }
        now = undo.pop();
        return undo.size();
    }

    int keep() {
        image = now.copy();
        return now.day;
    }

    int back() {
        if (image == null) {
            return -1;
        }
        now = image.copy();
        undo.clear();
        return now.day;
    }

    int count(int what) {
        return switch (what) {
            case 0 -> facts();
            case 1 -> persons();
            case 2 -> questions();
            case 3 -> told.talk.size();
            case 4 -> told.knots;
            case 5 -> now.day;
            case 6 -> now.sum();
            case 7 -> java.util.Arrays.stream(now.lost).sum();
            case 8 -> now.total;
            case 9 -> notes.size();
            case 10 -> knownBy < 0 ? notes.size() : knownBy;
            case 11 -> undo.size();
            default -> -1;
        };
    }
}
