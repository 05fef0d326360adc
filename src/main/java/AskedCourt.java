import java.util.NoSuchElementException;

/** A court in which only questions are answered. Words in capitals are the document's terms. */
public final class AskedCourt {
    public static final int NONE = -1;

    private static final int MOST_FACTS = 8;
    private static final int MOST_PERSONS = 5;
    private static final int MOST_QUESTIONS = 8;
    private static final int MOST_TALK = 10;
    private static final int MOST_KNOTS = 64;
    private static final int MOST_NOTES = 24;
    private static final int MOST_UNDONE = 20;
    private static final int MOST_TAPE = 700;
    private static final int LAST_ROOM = 3;
    private static final int LAST_DAY = 999;
    private static final int HIGHEST = 9;
    private static final int USUAL_NINE = 9;

    private static final int DOUBLE = 1;
    private static final int BACK = 2;
    private static final int IDLE = 3;

    private static final int BY_NONE = -2;
    private static final int TOO_FEW = -3;
    /** What a law's E answers with an ERROR; no VALUE can be so low. */
    private static final long NO_VALUE = 1L << 63;

    private final int[] tape = new int[MOST_TAPE];
    private final State now = new State();
    private final State image = new State();
    private final History history = new History();
    private final Notes notes = new Notes();
    private final Search search = new Search();
    /** Tries are played on this one, so that no call makes objects. */
    private final State trial = new State();
    private Court court = new Court();
    /** The next TEXT is read into this one, so that all stays with a FAULT. */
    private Court spare = new Court();
    private final TextReader reader = new TextReader(tape, spare);
    private final Rules rules = new Rules(court);
    private int taped;
    private int fault;
    private int faultPlace = NONE;
    private boolean hasImage;

    public AskedCourt() {
    }

    // ---- the TAPE and the TEXT

    public int feed(int a, int b, int c, int d, int e) {
        if (taped > MOST_TAPE - 20) {
            return NONE;
        }
        putBytes(a);
        putBytes(b);
        putBytes(c);
        putBytes(d);
        putBytes(e);
        return taped;
    }

    private void putBytes(int four) {
        for (int shift = 24; shift >= 0 && taped < tape.length; shift -= 8) {
            tape[taped] = four >> shift & 255;
            taped++;
        }
    }

    public int text(int n) {
        if (n < 0 || n > taped) {
            return BY_NONE;
        }
        taped = 0;
        fault = reader.readText(spare, n);
        faultPlace = fault == 0 ? NONE : reader.place();
        if (fault != 0) {
            return NONE;
        }
        Court told = spare;
        spare = court;
        court = told;
        now.begin(court);
        notes.clear();
        history.clear();
        hasImage = false;
        return reader.lines;
    }

    public int fault(int what) {
        switch (what) {
            case 0:
                return fault;
            case 1:
                return faultPlace;
            default:
                return NONE;
        }
    }

    public int named(int what, int letters) {
        switch (what) {
            case 0:
                return court.facts.numberOf(letters);
            case 1:
                return court.persons.numberOf(letters);
            case 2:
                return court.questions.numberOf(letters);
            default:
                return NONE;
        }
    }

    // ---- what is so now

    public int person(int person, int what) throws IndexOutOfBoundsException, NoSuchElementException {
        if (!court.persons.has(person)) {
            throw new IndexOutOfBoundsException();
        }
        switch (what) {
            case 0:
                return court.lips[person];
            case 1:
                return court.wits[person];
            case 2:
                return now.rooms[person];
            case 3:
                return now.knows[person];
            case 4:
                return now.lost[person];
            case 5:
                return now.asked[person];
            default:
                throw new NoSuchElementException();
        }
    }

    public int question(int question, int what) {
        if (!court.questions.has(question)) {
            return BY_NONE;
        }
        switch (what) {
            case 0:
                return court.kinds[question];
            case 1:
                return court.supposes[question];
            case 2:
                return court.also[question];
            case 3:
                return court.asks[question];
            default:
                return BY_NONE;
        }
    }

    public int can(int one, int other, int question) {
        if (!areTwo(one, other) || !court.questions.has(question)) {
            return NONE;
        }
        rules.begin(court);
        return rules.allowsToday(now, one, other, question) ? 1 : 0;
    }

    public long law(int what, int person, int question) {
        if (what < 0 || what > 1 || !court.persons.has(person) || !court.questions.has(question)) {
            return NO_VALUE;
        }
        rules.begin(court);
        return rules.worth(what == 0 ? court.slip : court.hear, now, person, question);
    }

    public int count(int what) {
        switch (what) {
            case 0:
                return court.facts.size;
            case 1:
                return court.persons.size;
            case 2:
                return court.questions.size;
            case 3:
                return court.talkLength;
            case 4:
                return court.knots;
            case 5:
                return now.day;
            case 6:
                return now.knownInSum();
            case 7:
                return now.lostInSum();
            case 8:
                return now.askedInAll;
            case 9:
                return notes.size;
            case 10:
                return notes.counted();
            case 11:
                return history.size;
            default:
                return NONE;
        }
    }

    private boolean areTwo(int one, int other) {
        return one != other && court.persons.has(one) && court.persons.has(other);
    }

    private boolean areTold(int person, int fact) {
        return court.persons.has(person) && court.facts.has(fact);
    }

    // ---- what is done by call

    public int ask(int one, int other, int question) {
        if (!areTwo(one, other) || !court.questions.has(question)) {
            return NONE;
        }
        rules.begin(court);
        if (!rules.allowsToday(now, one, other, question)) {
            return BY_NONE;
        }
        history.push(now);
        rules.draws = true;
        return rules.pose(now, one, other, question) ? 1 : 0;
    }

    public boolean tell(int person, int fact) {
        if (!areTold(person, fact) || now.isKnown(person, fact)) {
            return false;
        }
        history.push(now);
        now.knows[person] |= 1 << fact;
        return true;
    }

    public boolean send(int person, int room) {
        if (!court.persons.has(person) || room < 0 || room > LAST_ROOM || now.rooms[person] == room) {
            return false;
        }
        history.push(now);
        now.rooms[person] = room;
        return true;
    }

    public int end() {
        if (now.day >= LAST_DAY) {
            return NONE;
        }
        history.push(now);
        now.beginDay(now.day + 1);
        return now.day;
    }

    public int undo() {
        if (history.size == 0) {
            return NONE;
        }
        history.pop(now);
        return history.size;
    }

    public int keep() {
        image.take(now);
        hasImage = true;
        return now.day;
    }

    public int back() {
        if (!hasImage) {
            return NONE;
        }
        now.take(image);
        history.clear();
        return now.day;
    }

    // ---- what comes of ALL

    /** The usual rules, and a copy of what is so now to try things on. */
    private State freshTrial() {
        rules.begin(court);
        trial.take(now);
        return trial;
    }

    public int all(int person) {
        if (!court.persons.has(person)) {
            return NONE;
        }
        State tried = freshTrial();
        rules.settle(tried);
        return tried.knows[person];
    }

    public int never(int person, int fact) {
        if (!areTold(person, fact)) {
            return NONE;
        }
        State tried = freshTrial();
        rules.settle(tried);
        return tried.isKnown(person, fact) ? 0 : 1;
    }

    public int away(int person, int fact) {
        if (!areTold(person, fact)) {
            return NONE;
        }
        if (now.isKnown(person, fact)) {
            return BY_NONE;
        }
        int size = court.persons.size;
        for (int fewest = 0; fewest < size; fewest++) {
            for (int bits = 0; bits < 1 << size; bits++) {
                if (Integer.bitCount(bits) == fewest && (bits >> person & 1) == 0 && neverWithout(bits, person, fact)) {
                    return bits;
                }
            }
        }
        return BY_NONE;
    }

    private boolean neverWithout(int bits, int person, int fact) {
        State tried = freshTrial();
        rules.missing = bits;
        rules.settle(tried);
        return !tried.isKnown(person, fact);
    }

    public int spread(int fact) {
        if (!court.facts.has(fact)) {
            return NONE;
        }
        State tried = freshTrial();
        rules.settle(tried);
        return tried.knowers(fact);
    }

    public int hint(int person, int fact, int what) {
        if (!areTold(person, fact) || what < 0 || what > 1) {
            return NONE;
        }
        State tried = freshTrial();
        rules.settle(tried);
        if (tried.isKnown(person, fact)) {
            return BY_NONE;
        }
        for (int who = 0; who < court.persons.size; who++) {
            for (int told = 0; told < court.facts.size; told++) {
                if (told != fact && !now.isKnown(who, told) && helps(who, told, person, fact)) {
                    return what == 0 ? who : told;
                }
            }
        }
        return BY_NONE;
    }

    private boolean helps(int who, int told, int person, int fact) {
        State tried = freshTrial();
        tried.knows[who] |= 1 << told;
        rules.settle(tried);
        return tried.isKnown(person, fact);
    }

    public int inRoom(int person, int room) {
        if (!court.persons.has(person) || room < 0 || room > LAST_ROOM) {
            return NONE;
        }
        return sumInRoom(person, room);
    }

    private int sumInRoom(int person, int room) {
        State tried = freshTrial();
        tried.rooms[person] = room;
        rules.settle(tried);
        return tried.knownInSum();
    }

    public int bestRoom(int person) {
        if (!court.persons.has(person)) {
            return NONE;
        }
        int best = 0;
        int most = NONE;
        for (int room = 0; room <= LAST_ROOM; room++) {
            int sum = sumInRoom(person, room);
            if (sum > most) {
                most = sum;
                best = room;
            }
        }
        return best;
    }

    public int tried(int what, int i) {
        if (!canBeTried(what, i)) {
            return NONE;
        }
        State tried = freshTrial();
        switch (what) {
            case 0:
                rules.silent = true;
                break;
            case 1:
                tried.gather();
                break;
            case 2:
                rules.missing = 1 << i;
                break;
            case 3:
                rules.leftOut = i;
                break;
            default:
                rules.wise = true;
                break;
        }
        rules.settle(tried);
        if (what == 2) {
            tried.knows[i] = 0;
        }
        return tried.knownInSum();
    }

    private boolean canBeTried(int what, int i) {
        switch (what) {
            case 0:
            case 1:
            case 4:
                return i == 0;
            case 2:
                return court.persons.has(i);
            case 3:
                return court.questions.has(i);
            default:
                return false;
        }
    }

    // ---- single questions, looked for

    public int unasked(int person) {
        if (!court.persons.has(person)) {
            return NONE;
        }
        rules.begin(court);
        int bits = 0;
        for (int question = 0; question < court.questions.size; question++) {
            if (!canAskAnybody(person, question)) {
                bits |= 1 << question;
            }
        }
        return bits;
    }

    private boolean canAskAnybody(int person, int question) {
        for (int other = 0; other < court.persons.size; other++) {
            if (other != person && rules.allowsToday(now, person, other, question)) {
                return true;
            }
        }
        return false;
    }

    public int care(int person) {
        if (!court.persons.has(person)) {
            return NONE;
        }
        rules.begin(court);
        int bits = 0;
        for (int question = 0; question < court.questions.size; question++) {
            if (isNewsInRoom(person, court.asks[question]) && canBeMadeToSlip(person, question)) {
                bits |= 1 << question;
            }
        }
        return bits;
    }

    /** Whether anybody else in the PERSON's ROOM doesn't KNOW the FACT now. */
    private boolean isNewsInRoom(int person, int fact) {
        for (int other = 0; other < court.persons.size && fact != NONE; other++) {
            if (other != person && now.rooms[other] == now.rooms[person] && !now.isKnown(other, fact)) {
                return true;
            }
        }
        return false;
    }

    private boolean canBeMadeToSlip(int person, int question) {
        for (int one = 0; one < court.persons.size; one++) {
            if (one != person && rules.allowsToday(now, one, person, question)) {
                trial.take(now);
                if (rules.pose(trial, one, person, question)) {
                    return true;
                }
            }
        }
        return false;
    }

    public int way(int person, int fact, int others, int n) {
        if (!isWay(person, fact, others, n)) {
            return NONE;
        }
        rules.begin(court);
        search.aim(person, fact, others);
        return search.findWay(rules, now, n) ? search.length : BY_NONE;
    }

    public int step(int person, int fact, int others, int n, int k) {
        if (!isWay(person, fact, others, n) || k < 0) {
            return NONE;
        }
        rules.begin(court);
        search.aim(person, fact, others);
        if (!search.findWay(rules, now, n) || k >= search.length) {
            return BY_NONE;
        }
        return search.codes[k];
    }

    private boolean isWay(int person, int fact, int others, int n) {
        return areTold(person, fact) && n >= 1 && n <= 2 && others >= 0 && others < 1 << court.persons.size
                && (others >> person & 1) == 0;
    }

    public int best(int person, int n, int what) {
        if (!court.persons.has(person) || n < 1 || n > 2 || what < 0 || what > 2) {
            return NONE;
        }
        rules.begin(court);
        if (!search.findDay(rules, now, person, n)) {
            return TOO_FEW;
        }
        if (what == 0) {
            return search.most;
        }
        return what > n ? BY_NONE : search.codes[what - 1];
    }

    public int rests(int one, int other) {
        if (!isDuel(one, other)) {
            return NONE;
        }
        rules.begin(court);
        search.findRests(rules, now, one, other);
        return search.restCount;
    }

    public int rest(int one, int other, int k) {
        if (!isDuel(one, other) || k < 0) {
            return NONE;
        }
        rules.begin(court);
        search.findRests(rules, now, one, other);
        return k < search.restCount ? search.rests[k] : BY_NONE;
    }

    private boolean isDuel(int one, int other) {
        return areTwo(one, other) && now.rooms[one] == now.rooms[other];
    }

    // ---- the TALK and its NOTES

    public int slipped(int person) {
        if (!court.persons.has(person)) {
            return NONE;
        }
        rules.begin(court);
        trial.begin(court);
        rules.hold(trial, 0, court.talkLength);
        return trial.lost[person];
    }

    public int behind(int n, int person) {
        if (!court.persons.has(person) || n < 0 || n > court.talkLength) {
            return NONE;
        }
        rules.begin(court);
        trial.begin(court);
        rules.hold(trial, 0, n);
        return trial.knows[person];
    }

    public int note(int n, int person, int fact, boolean is) {
        if (!areTold(person, fact) || n < 0 || n > court.talkLength || notes.isFull()) {
            return NONE;
        }
        return notes.addNote(n, person, fact, is);
    }

    public int strike(int note) {
        if (note < 0 || note >= notes.size || notes.isFull()) {
            return NONE;
        }
        return notes.addStrike(note);
    }

    public boolean known(int n) {
        if (n < NONE || n > notes.size) {
            return false;
        }
        notes.knownBy = n;
        return true;
    }

    public int knew(int person) {
        if (!court.persons.has(person)) {
            return NONE;
        }
        notes.strikeOut();
        int bits = 0;
        for (int fact = 0; fact <= court.facts.size; fact++) {
            rules.begin(court);
            trial.begin(court);
            if (fact < court.facts.size) {
                trial.knows[person] |= 1 << fact;
            }
            if (agreesWithNotes(trial)) {
                bits |= 1 << fact;
            }
        }
        return bits;
    }

    private boolean agreesWithNotes(State told) {
        for (int held = 0; held <= court.talkLength; held++) {
            if (!notes.agree(held, told)) {
                return false;
            }
            rules.hold(told, held, held + 1);
        }
        return true;
    }

    public int chance(int seed, int person, int fact) {
        if (seed < 0 || !areTold(person, fact)) {
            return NONE;
        }
        rules.begin(court);
        rules.draws = true;
        int times = 0;
        int number = seed;
        for (int time = 0; time < 10; time++) {
            trial.take(now);
            trial.number = number;
            rules.hold(trial, 0, court.talkLength);
            number = trial.number;
            if (trial.isKnown(person, fact)) {
                times++;
            }
        }
        return times;
    }

    // ---- what the TEXT tells

    /** The names of one kind, numbered as they come. */
    private static final class Names {
        private final int[] codes = new int[MOST_FACTS];
        private final int most;
        private int size;

        Names(int most) {
            this.most = Math.min(most, MOST_FACTS);
        }

        void clear() {
            size = 0;
        }

        boolean isFull() {
            return size >= most;
        }

        boolean has(int number) {
            return number >= 0 && number < size;
        }

        int numberOf(int code) {
            for (int number = 0; number < size; number++) {
                if (codes[number] == code) {
                    return number;
                }
            }
            return NONE;
        }

        void add(int code) {
            if (!isFull()) {
                codes[size] = code;
                size++;
            }
        }
    }

    /** All that a TEXT tells; what changes later is in State. */
    private static final class Court {
        private final Names facts = new Names(MOST_FACTS);
        private final Names persons = new Names(MOST_PERSONS);
        private final Names questions = new Names(MOST_QUESTIONS);
        private final int[] lips = new int[MOST_PERSONS];
        private final int[] wits = new int[MOST_PERSONS];
        private final int[] rooms = new int[MOST_PERSONS];
        private final int[] knows = new int[MOST_PERSONS];
        private final int[] kinds = new int[MOST_QUESTIONS];
        private final int[] supposes = new int[MOST_QUESTIONS];
        private final int[] also = new int[MOST_QUESTIONS];
        private final int[] asks = new int[MOST_QUESTIONS];
        private final int[] talkOne = new int[MOST_TALK];
        private final int[] talkOther = new int[MOST_TALK];
        private final int[] talkQuestion = new int[MOST_TALK];
        private final Law slip = new Law();
        private final Law hear = new Law();
        private int talkLength;
        private int nine = USUAL_NINE;
        private int seed;
        private int knots;

        void clear() {
            facts.clear();
            persons.clear();
            questions.clear();
            slip.clear();
            hear.clear();
            talkLength = 0;
            nine = USUAL_NINE;
            seed = 0;
            knots = 0;
        }

        /** The FACTS (bits) that a QUESTION SUPPOSES, those that count. */
        int supposed(int question) {
            int bits = bitOf(supposes[question]);
            return kinds[question] == DOUBLE ? bits | bitOf(also[question]) : bits;
        }

        private static int bitOf(int fact) {
            return fact == NONE ? 0 : 1 << fact;
        }
    }

    /** E of a law: its KNOTS, each behind those that it joins. */
    private static final class Law {
        private static final long LIMIT = 1000000000000L;

        private final int[] codes = new int[MOST_KNOTS];
        private final int[] numbers = new int[MOST_KNOTS];
        private int length;
        private boolean isTold;

        void clear() {
            length = 0;
            isTold = false;
        }

        void add(int code, int number) {
            if (length < MOST_KNOTS) {
                codes[length] = code;
                numbers[length] = number;
                length++;
            }
        }

        /** NO_VALUE with an ERROR. */
        long value(int[] names, long[] stack) {
            int depth = 0;
            for (int i = 0; i < length; i++) {
                int code = codes[i];
                if (code == Tokens.NUMBER || Tokens.isLawName(code)) {
                    if (depth >= stack.length) {
                        return NO_VALUE;
                    }
                    stack[depth] = code == Tokens.NUMBER ? numbers[i] : names[code - Tokens.LIPS];
                    depth++;
                } else if (code == Tokens.NOT) {
                    if (depth < 1) {
                        return NO_VALUE;
                    }
                    stack[depth - 1] = stack[depth - 1] == 0 ? 1 : 0;
                } else {
                    if (depth < 2) {
                        return NO_VALUE;
                    }
                    depth--;
                    long left = stack[depth - 1];
                    long right = stack[depth];
                    long value = code == Tokens.TIMES ? product(left, right) : joined(code, left, right);
                    if (value > LIMIT || value < -LIMIT) {
                        return NO_VALUE;
                    }
                    stack[depth - 1] = value;
                }
            }
            return depth == 1 ? stack[0] : NO_VALUE;
        }

        private static long joined(int code, long left, long right) {
            switch (code) {
                case Tokens.OR:
                    return left != 0 || right != 0 ? 1 : 0;
                case Tokens.AND:
                    return left != 0 && right != 0 ? 1 : 0;
                case Tokens.LESS:
                    return left < right ? 1 : 0;
                case Tokens.LESS_EQUAL:
                    return left <= right ? 1 : 0;
                case Tokens.EQUAL:
                    return left == right ? 1 : 0;
                case Tokens.UNEQUAL:
                    return left != right ? 1 : 0;
                case Tokens.GREATER_EQUAL:
                    return left >= right ? 1 : 0;
                case Tokens.GREATER:
                    return left > right ? 1 : 0;
                case Tokens.PLUS:
                    return left + right;
                case Tokens.MINUS:
                    return left - right;
                default:
                    return right == 0 ? NO_VALUE : left / right;
            }
        }

        /** Looked at ahead of multiplying: two VALUES at the limit would wrap around a long. */
        private static long product(long left, long right) {
            if (right == 0) {
                return 0;
            }
            long most = LIMIT / (right < 0 ? -right : right);
            return left > most || left < -most ? NO_VALUE : left * right;
        }
    }

    // ---- the reading of a TEXT

    /** The TOKENS of a TEXT, one at a time. */
    private static final class Tokens {
        /** A word's place here is its kind. */
        private static final String WORDS = "fact person knows ask talk nine seed law plain double back idle none slip hear or and not lips wit lost heard room kind day ";
        private static final int FACT = 0;
        private static final int PERSON = 1;
        private static final int KNOWS = 2;
        private static final int ASK = 3;
        private static final int TALK = 4;
        private static final int NINE = 5;
        private static final int SEED = 6;
        private static final int LAW = 7;
        private static final int FIRST_KIND = 8;
        private static final int LAST_KIND = 11;
        private static final int NO_FACT = 12;
        private static final int SLIP = 13;
        private static final int HEAR = 14;
        private static final int OR = 15;
        private static final int AND = 16;
        private static final int NOT = 17;
        private static final int LIPS = 18;
        private static final int DAY = 24;
        private static final int WORD_COUNT = 25;
        private static final int NAME = 25;
        private static final int NUMBER = 26;
        private static final int SEMICOLON = 27;
        private static final int LESS = 28;
        private static final int LESS_EQUAL = 29;
        private static final int EQUAL = 30;
        private static final int UNEQUAL = 31;
        private static final int GREATER_EQUAL = 32;
        private static final int GREATER = 33;
        private static final int PLUS = 34;
        private static final int MINUS = 35;
        private static final int TIMES = 36;
        private static final int OVER = 37;
        private static final int OPEN = 38;
        private static final int CLOSE = 39;
        private static final int END = 40;
        private static final int BAD = 41;
        private static final int LONGEST_NAME = 6;
        /** Any number from here on is beyond all that may be told. */
        private static final int TOO_GREAT = 1000000;

        private final int[] bytes;
        private final int[] words = new int[WORD_COUNT];
        private int length;
        private int at;
        private int kind;
        private int place;
        /** A number's worth, or a word's letters, 5 bits each. */
        private int value;

        Tokens(int[] bytes) {
            this.bytes = bytes;
            int word = 0;
            int letters = 0;
            for (int i = 0; i < WORDS.length() && word < WORD_COUNT; i++) {
                if (WORDS.charAt(i) != ' ') {
                    words[word] |= WORDS.charAt(i) - 'a' + 1 << 5 * (LONGEST_NAME - 1 - letters);
                    letters++;
                } else {
                    word++;
                    letters = 0;
                }
            }
        }

        static boolean isLawName(int kind) {
            return kind >= LIPS && kind <= DAY;
        }

        void start(int n) {
            length = Math.max(0, Math.min(n, bytes.length));
            at = 0;
            move();
        }

        void move() {
            while (at < length && (bytes[at] == ' ' || bytes[at] == 10)) {
                at++;
            }
            place = at;
            if (at >= length) {
                kind = END;
            } else if (isLetter(bytes[at])) {
                readWord();
            } else if (isDigit(bytes[at])) {
                readNumber();
            } else {
                kind = signOf(bytes[at]);
                at++;
                lengthenSign();
            }
        }

        private static boolean isLetter(int sign) {
            return sign >= 'a' && sign <= 'z';
        }

        private static boolean isDigit(int sign) {
            return sign >= '0' && sign <= '9';
        }

        private void readWord() {
            int letters = 0;
            value = 0;
            while (at < length && isLetter(bytes[at])) {
                if (letters < LONGEST_NAME) {
                    value |= bytes[at] - 'a' + 1 << 5 * (LONGEST_NAME - 1 - letters);
                }
                letters++;
                at++;
            }
            kind = letters > LONGEST_NAME ? BAD : kindOfWord();
        }

        private int kindOfWord() {
            for (int word = 0; word < WORD_COUNT; word++) {
                if (words[word] == value) {
                    return word;
                }
            }
            return NAME;
        }

        private void readNumber() {
            kind = NUMBER;
            value = 0;
            while (at < length && isDigit(bytes[at])) {
                value = Math.min(TOO_GREAT, value * 10 + bytes[at] - '0');
                at++;
            }
        }

        private static int signOf(int sign) {
            switch (sign) {
                case ';':
                    return SEMICOLON;
                case '<':
                    return LESS;
                case '=':
                    return EQUAL;
                case '>':
                    return GREATER;
                case '+':
                    return PLUS;
                case '-':
                    return MINUS;
                case '*':
                    return TIMES;
                case '/':
                    return OVER;
                case '(':
                    return OPEN;
                case ')':
                    return CLOSE;
                default:
                    return BAD;
            }
        }

        /** A = (or > behind <) right behind < or > belongs to it. */
        private void lengthenSign() {
            int first = kind;
            int behind = at < length ? bytes[at] : 0;
            if (first == LESS && behind == '=') {
                kind = LESS_EQUAL;
            } else if (first == LESS && behind == '>') {
                kind = UNEQUAL;
            } else if (first == GREATER && behind == '=') {
                kind = GREATER_EQUAL;
            }
            if (kind != first) {
                at++;
            }
        }
    }

    /** Reads the LINES of a TEXT; its methods answer the FAULT (0 without), which is at the TOKEN at hand. */
    private static final class TextReader {
        private static final int CANT_STAND = 1;
        private static final int TOO_MUCH = 2;
        private static final int TOLD_ALREADY = 3;
        private static final int NOT_TOLD = 4;
        private static final int ASKS_ITSELF = 5;
        private static final int MOST_NINE = 99;
        private static final int MOST_SEED = 99999;

        private final Tokens tokens;
        private final LawReader lawReader;
        private Court court;
        private boolean nineTold;
        private boolean seedTold;
        private int lines;
        /** What was taken last: a number, or the number of a name. */
        private int taken;

        TextReader(int[] bytes, Court court) {
            this.court = court;
            tokens = new Tokens(bytes);
            lawReader = new LawReader(tokens, court);
        }

        int place() {
            return tokens.place;
        }

        int readText(Court told, int n) {
            court = told;
            court.clear();
            nineTold = false;
            seedTold = false;
            tokens.start(n);
            for (lines = 0; lines < n && tokens.kind != Tokens.END; lines++) {
                int wrong = readLine();
                if (wrong != 0) {
                    return wrong;
                }
                if (tokens.kind != Tokens.SEMICOLON) {
                    return CANT_STAND;
                }
                tokens.move();
            }
            return 0;
        }

        private int readLine() {
            switch (tokens.kind) {
                case Tokens.FACT:
                    return readFact();
                case Tokens.PERSON:
                    return readPerson();
                case Tokens.KNOWS:
                    return readKnows();
                case Tokens.ASK:
                    return readAsk();
                case Tokens.TALK:
                    return readTalk();
                case Tokens.NINE:
                    return readNine();
                case Tokens.SEED:
                    return readSeed();
                case Tokens.LAW:
                    return readLaw();
                default:
                    return CANT_STAND;
            }
        }

        private int readFact() {
            if (court.facts.isFull()) {
                return TOO_MUCH;
            }
            tokens.move();
            return takeNew(court.facts);
        }

        private int readPerson() {
            int person = court.persons.size;
            if (court.persons.isFull()) {
                return TOO_MUCH;
            }
            court.knows[person] = 0;
            tokens.move();
            int wrong = takeNew(court.persons);
            if (wrong != 0) {
                return wrong;
            }
            wrong = takeNumber(HIGHEST);
            if (wrong != 0) {
                return wrong;
            }
            court.lips[person] = taken;
            wrong = takeNumber(HIGHEST);
            if (wrong != 0) {
                return wrong;
            }
            court.wits[person] = taken;
            wrong = takeNumber(LAST_ROOM);
            court.rooms[person] = taken;
            return wrong;
        }

        private int readKnows() {
            tokens.move();
            int wrong = takeTold(court.persons);
            if (wrong != 0) {
                return wrong;
            }
            int person = taken;
            wrong = findTold(court.facts);
            if (wrong != 0) {
                return wrong;
            }
            if ((court.knows[person] >> taken & 1) != 0) {
                return TOLD_ALREADY;
            }
            court.knows[person] |= 1 << taken;
            tokens.move();
            return 0;
        }

        private int readAsk() {
            int question = court.questions.size;
            if (court.questions.isFull()) {
                return TOO_MUCH;
            }
            tokens.move();
            int wrong = takeNew(court.questions);
            if (wrong != 0) {
                return wrong;
            }
            if (tokens.kind < Tokens.FIRST_KIND || tokens.kind > Tokens.LAST_KIND) {
                return CANT_STAND;
            }
            court.kinds[question] = tokens.kind - Tokens.FIRST_KIND;
            tokens.move();
            wrong = takeSome(court.supposes, question);
            if (wrong == 0) {
                wrong = takeSome(court.also, question);
            }
            if (wrong == 0) {
                wrong = takeSome(court.asks, question);
            }
            return wrong;
        }

        private int readTalk() {
            int line = court.talkLength;
            if (line >= MOST_TALK) {
                return TOO_MUCH;
            }
            tokens.move();
            int wrong = takeTold(court.persons);
            if (wrong != 0) {
                return wrong;
            }
            int one = taken;
            wrong = findTold(court.persons);
            if (wrong != 0) {
                return wrong;
            }
            if (taken == one) {
                return ASKS_ITSELF;
            }
            court.talkOne[line] = one;
            court.talkOther[line] = taken;
            tokens.move();
            wrong = takeTold(court.questions);
            court.talkQuestion[line] = taken;
            court.talkLength++;
            return wrong;
        }

        private int readNine() {
            if (nineTold) {
                return TOLD_ALREADY;
            }
            nineTold = true;
            tokens.move();
            int wrong = takeNumber(MOST_NINE);
            court.nine = taken;
            return wrong;
        }

        private int readSeed() {
            if (seedTold) {
                return TOLD_ALREADY;
            }
            seedTold = true;
            tokens.move();
            int wrong = takeNumber(MOST_SEED);
            court.seed = taken;
            return wrong;
        }

        private int readLaw() {
            tokens.move();
            if (tokens.kind != Tokens.SLIP && tokens.kind != Tokens.HEAR) {
                return CANT_STAND;
            }
            Law law = tokens.kind == Tokens.SLIP ? court.slip : court.hear;
            if (law.isTold) {
                return TOLD_ALREADY;
            }
            law.isTold = true;
            tokens.move();
            return lawReader.readLaw(law, court);
        }

        private int takeNew(Names names) {
            if (tokens.kind != Tokens.NAME) {
                return CANT_STAND;
            }
            if (names.numberOf(tokens.value) != NONE) {
                return TOLD_ALREADY;
            }
            names.add(tokens.value);
            tokens.move();
            return 0;
        }

        /** Stays at the name, for a FAULT that may still be found there. */
        private int findTold(Names names) {
            if (tokens.kind != Tokens.NAME) {
                return CANT_STAND;
            }
            taken = names.numberOf(tokens.value);
            return taken == NONE ? NOT_TOLD : 0;
        }

        private int takeTold(Names names) {
            int wrong = findTold(names);
            if (wrong == 0) {
                tokens.move();
            }
            return wrong;
        }

        private int takeSome(int[] facts, int question) {
            int wrong = 0;
            taken = NONE;
            if (tokens.kind != Tokens.NO_FACT) {
                wrong = findTold(court.facts);
            }
            if (wrong == 0) {
                tokens.move();
            }
            facts[question] = taken;
            return wrong;
        }

        private int takeNumber(int most) {
            if (tokens.kind != Tokens.NUMBER) {
                return CANT_STAND;
            }
            if (tokens.value > most) {
                return TOO_MUCH;
            }
            taken = tokens.value;
            tokens.move();
            return 0;
        }
    }

    /** Reads E of a law, without recursion: what waits for its right side stands in a row. */
    private static final class LawReader {
        private static final int MOST_OPEN = 8;
        private static final int MOST_NUMBER = 9999;
        private static final int GOES_ON = -1;
        private static final int NOT_LEVEL = 3;
        private static final int COMPARING_LEVEL = 4;

        private final Tokens tokens;
        private final int[] waiting = new int[MOST_KNOTS + MOST_OPEN];
        private int top;
        private int open;
        private boolean wantsOperand;
        private Law law;
        private Court court;

        LawReader(Tokens tokens, Court court) {
            this.tokens = tokens;
            this.court = court;
            law = court.slip;
        }

        /** Ends at the TOKEN behind E; answers the FAULT (0 without). */
        int readLaw(Law told, Court of) {
            law = told;
            court = of;
            top = 0;
            open = 0;
            wantsOperand = true;
            for (int i = 0; i <= MOST_TAPE; i++) {
                int wrong = wantsOperand ? takeOperand() : tokens.kind == Tokens.CLOSE ? takeClose() : takeOperator();
                if (wrong != GOES_ON) {
                    return wrong;
                }
                tokens.move();
            }
            return TextReader.CANT_STAND;
        }

        private int takeOperand() {
            int kind = tokens.kind;
            if (kind == Tokens.OPEN) {
                if (open >= MOST_OPEN) {
                    return TextReader.TOO_MUCH;
                }
                open++;
                pushWaiting(kind);
                return GOES_ON;
            }
            if (kind == Tokens.NOT) {
                if (top > 0 && levelOf(waiting[top - 1]) > NOT_LEVEL) {
                    return TextReader.CANT_STAND;
                }
                pushWaiting(kind);
                return countKnot();
            }
            if (kind != Tokens.NUMBER && !Tokens.isLawName(kind)) {
                return TextReader.CANT_STAND;
            }
            if (kind == Tokens.NUMBER && tokens.value > MOST_NUMBER) {
                return TextReader.TOO_MUCH;
            }
            law.add(kind, tokens.value);
            wantsOperand = false;
            return countKnot();
        }

        private int takeOperator() {
            int kind = tokens.kind;
            if (kind == Tokens.SEMICOLON && open == 0) {
                joinAbove(0);
                return 0;
            }
            int level = levelOf(kind);
            if (level == 0 || level == NOT_LEVEL) {
                return TextReader.CANT_STAND;
            }
            if (level == COMPARING_LEVEL) {
                joinAbove(level);
                if (top > 0 && levelOf(waiting[top - 1]) == level) {
                    return TextReader.CANT_STAND;
                }
            }
            joinAbove(level - 1);
            pushWaiting(kind);
            wantsOperand = true;
            return countKnot();
        }

        private int takeClose() {
            if (open == 0) {
                return TextReader.CANT_STAND;
            }
            joinAbove(0);
            open--;
            top--;
            return GOES_ON;
        }

        /** Those that wait, of a higher level than this one, have their right side; an open '(' is of level 0. */
        private void joinAbove(int level) {
            while (top > 0 && levelOf(waiting[top - 1]) > level) {
                top--;
                law.add(waiting[top], 0);
            }
        }

        private void pushWaiting(int kind) {
            if (top < waiting.length) {
                waiting[top] = kind;
                top++;
            }
        }

        private int countKnot() {
            if (court.knots >= MOST_KNOTS) {
                return TextReader.TOO_MUCH;
            }
            court.knots++;
            return GOES_ON;
        }

        /** How tightly a TOKEN joins its sides; 0: it joins none. */
        private static int levelOf(int kind) {
            switch (kind) {
                case Tokens.OR:
                    return 1;
                case Tokens.AND:
                    return 2;
                case Tokens.NOT:
                    return NOT_LEVEL;
                case Tokens.LESS:
                case Tokens.LESS_EQUAL:
                case Tokens.EQUAL:
                case Tokens.UNEQUAL:
                case Tokens.GREATER_EQUAL:
                case Tokens.GREATER:
                    return COMPARING_LEVEL;
                case Tokens.PLUS:
                case Tokens.MINUS:
                    return 5;
                case Tokens.TIMES:
                case Tokens.OVER:
                    return 6;
                default:
                    return 0;
            }
        }
    }

    // ---- what changes, and by which rules

    /** All that an IMAGE keeps and that can be undone. */
    private static final class State {
        private final int[] knows = new int[MOST_PERSONS];
        private final int[] rooms = new int[MOST_PERSONS];
        private final int[] lost = new int[MOST_PERSONS];
        private final int[] asked = new int[MOST_PERSONS];
        private int day;
        private int askedInAll;
        /** The last number drawn, before it is taken by 65536. */
        private int number;
        private int persons;

        /** As the TEXT tells it. */
        void begin(Court court) {
            persons = court.persons.size;
            for (int person = 0; person < MOST_PERSONS; person++) {
                knows[person] = court.knows[person];
                rooms[person] = court.rooms[person];
                lost[person] = 0;
            }
            number = court.seed;
            askedInAll = 0;
            beginDay(0);
        }

        void beginDay(int newDay) {
            day = newDay;
            for (int person = 0; person < MOST_PERSONS; person++) {
                asked[person] = 0;
            }
        }

        void take(State from) {
            for (int person = 0; person < MOST_PERSONS; person++) {
                knows[person] = from.knows[person];
                rooms[person] = from.rooms[person];
                lost[person] = from.lost[person];
                asked[person] = from.asked[person];
            }
            day = from.day;
            askedInAll = from.askedInAll;
            number = from.number;
            persons = from.persons;
        }

        boolean isKnown(int person, int fact) {
            return (knows[person] >> fact & 1) != 0;
        }

        int knowers(int fact) {
            int bits = 0;
            for (int person = 0; person < persons; person++) {
                bits |= (knows[person] >> fact & 1) << person;
            }
            return bits;
        }

        int knownInSum() {
            int sum = 0;
            for (int person = 0; person < persons; person++) {
                sum += Integer.bitCount(knows[person]);
            }
            return sum;
        }

        int lostInSum() {
            int sum = 0;
            for (int person = 0; person < persons; person++) {
                sum += lost[person];
            }
            return sum;
        }

        void gather() {
            for (int person = 0; person < persons; person++) {
                rooms[person] = 0;
            }
        }

        int drawNumber() {
            number = number * 1103515245 + 12345 & 2147483647;
            return number / 65536;
        }
    }

    /** How one ASKS, as it goes or with numbers, and with what is tried otherwise. */
    private static final class Rules {
        private static final int LEAST_SLIP = 50;
        private static final int SURE_SLIP = 100;
        private static final int BACK_WIT = 5;

        private final int[] names = new int[Tokens.DAY - Tokens.LIPS + 1];
        private final long[] stack = new long[MOST_KNOTS];
        private Court court;
        private boolean draws;
        /** PERSONS (bits) who aren't there. */
        private int missing;
        /** The QUESTION that isn't there. */
        private int leftOut = NONE;
        private boolean silent;
        private boolean wise;

        Rules(Court court) {
            this.court = court;
        }

        /** Nothing is tried otherwise, all is as it goes. */
        void begin(Court told) {
            court = told;
            draws = false;
            missing = 0;
            leftOut = NONE;
            silent = false;
            wise = false;
        }

        boolean allowsToday(State state, int one, int other, int question) {
            return state.asked[one] < court.nine && allows(state, one, other, question);
        }

        /** Whether one can ASK, if nine doesn't matter. */
        boolean allows(State state, int one, int other, int question) {
            return state.rooms[one] == state.rooms[other] && question != leftOut
                    && (missing >> one & 1) == 0 && (missing >> other & 1) == 0
                    && (court.supposed(question) & ~state.knows[one]) == 0;
        }

        /** One ASKS; answers whether something is LET SLIP. */
        boolean pose(State state, int one, int other, int question) {
            state.asked[one]++;
            state.askedInAll++;
            int room = state.rooms[one];
            int supposed = court.supposed(question);
            for (int person = 0; person < court.persons.size; person++) {
                if (person != one && isIn(state, person, room) && (supposed & ~state.knows[person]) != 0
                        && hears(state, person, question)) {
                    state.knows[person] |= supposed;
                }
            }
            int fact = court.asks[question];
            if (court.kinds[question] == IDLE || fact == NONE || !state.isKnown(other, fact)
                    || !slips(state, other, question)) {
                return false;
            }
            for (int person = 0; person < court.persons.size; person++) {
                if (isIn(state, person, room)) {
                    state.knows[person] |= 1 << fact;
                }
            }
            state.lost[other]++;
            return true;
        }

        private boolean isIn(State state, int person, int room) {
            return state.rooms[person] == room && (missing >> person & 1) == 0;
        }

        private boolean hears(State state, int person, int question) {
            long value = worth(court.hear, state, person, question);
            if (value != NO_VALUE) {
                return value != 0;
            }
            return court.kinds[question] != BACK || witOf(person) >= BACK_WIT;
        }

        private boolean slips(State state, int person, int question) {
            if (silent) {
                return false;
            }
            long value = worth(court.slip, state, person, question);
            if (value == NO_VALUE) {
                value = 10L * court.lips[person];
            }
            if (!draws) {
                return value >= LEAST_SLIP;
            }
            if (value <= 0 || value >= SURE_SLIP) {
                return value > 0;
            }
            return value > state.drawNumber() % SURE_SLIP;
        }

        private int witOf(int person) {
            return wise ? HIGHEST : court.wits[person];
        }

        /** E of a law for a PERSON by a QUESTION; NO_VALUE with an ERROR and without such a law. */
        long worth(Law law, State state, int person, int question) {
            if (!law.isTold) {
                return NO_VALUE;
            }
            names[0] = court.lips[person];
            names[1] = witOf(person);
            names[2] = state.lost[person];
            names[3] = Integer.bitCount(state.knows[person]);
            names[4] = state.rooms[person];
            names[5] = court.kinds[question];
            names[6] = state.day;
            return law.value(names, stack);
        }

        /** ALL go on asking till a whole round adds nothing; each round but the last adds a FACT to a PERSON. */
        void settle(State state) {
            for (int round = 0; round <= MOST_FACTS * MOST_PERSONS; round++) {
                int before = state.knownInSum();
                for (int one = 0; one < court.persons.size; one++) {
                    for (int other = 0; other < court.persons.size; other++) {
                        for (int question = 0; question < court.questions.size; question++) {
                            if (one != other && allows(state, one, other, question)) {
                                pose(state, one, other, question);
                            }
                        }
                    }
                }
                if (state.knownInSum() == before) {
                    return;
                }
            }
        }

        /** The TALK from one place of it to another; what can't be asked isn't, nine doesn't matter. */
        void hold(State state, int from, int to) {
            for (int line = from; line < to && line < court.talkLength; line++) {
                int one = court.talkOne[line];
                int other = court.talkOther[line];
                int question = court.talkQuestion[line];
                if (allows(state, one, other, question)) {
                    pose(state, one, other, question);
                }
            }
        }
    }

    /** What can be undone: the latest states ahead of each call, in a ring. */
    private static final class History {
        private final State[] states = new State[MOST_UNDONE];
        private int oldest;
        private int size;

        History() {
            for (int i = 0; i < MOST_UNDONE; i++) {
                states[i] = new State();
            }
        }

        void clear() {
            size = 0;
        }

        void push(State state) {
            states[(oldest + size) % MOST_UNDONE].take(state);
            if (size < MOST_UNDONE) {
                size++;
            } else {
                oldest = (oldest + 1) % MOST_UNDONE;
            }
        }

        void pop(State state) {
            if (size > 0) {
                size--;
                state.take(states[(oldest + size) % MOST_UNDONE]);
            }
        }
    }

    /** The NOTES, STRIKES among them. */
    private static final class Notes {
        private final int[] behind = new int[MOST_NOTES];
        private final int[] persons = new int[MOST_NOTES];
        private final int[] facts = new int[MOST_NOTES];
        private final boolean[] is = new boolean[MOST_NOTES];
        /** The NOTE that a STRIKE is of; NONE of another NOTE. */
        private final int[] strikes = new int[MOST_NOTES];
        private final boolean[] struck = new boolean[MOST_NOTES];
        private int size;
        /** NONE: by all, also those to come. */
        private int knownBy = NONE;

        void clear() {
            size = 0;
            knownBy = NONE;
        }

        boolean isFull() {
            return size >= MOST_NOTES;
        }

        int counted() {
            return knownBy == NONE ? size : knownBy;
        }

        int addNote(int held, int person, int fact, boolean so) {
            if (isFull()) {
                return NONE;
            }
            behind[size] = held;
            persons[size] = person;
            facts[size] = fact;
            is[size] = so;
            strikes[size] = NONE;
            size++;
            return size - 1;
        }

        int addStrike(int number) {
            if (isFull()) {
                return NONE;
            }
            strikes[size] = number;
            size++;
            return size - 1;
        }

        /** From the last one on: a STRIKE is of an earlier one always, so it is known then whether it counts. */
        void strikeOut() {
            for (int i = 0; i < MOST_NOTES; i++) {
                struck[i] = false;
            }
            for (int i = counted() - 1; i >= 0; i--) {
                if (!struck[i] && strikes[i] != NONE) {
                    struck[strikes[i]] = true;
                }
            }
        }

        /** Whether all KNOWN NOTES behind so many of the TALK are so (by the latest strikeOut). */
        boolean agree(int held, State state) {
            for (int i = 0; i < counted(); i++) {
                if (!struck[i] && strikes[i] == NONE && behind[i] == held
                        && state.isKnown(persons[i], facts[i]) != is[i]) {
                    return false;
                }
            }
            return true;
        }
    }

    /** Looks for the first or best of several QUESTIONS, as it goes. */
    private static final class Search {
        private static final int CHOICES = MOST_QUESTIONS + 1;

        private final State first = new State();
        private final State second = new State();
        /** The QUESTIONS found: a hundred times who asks (of a WAY alone), ten times whom, the QUESTION. */
        private final int[] codes = new int[2];
        private int length;
        private int most;
        private int person;
        private int fact;
        private int others;
        private final int[] oneHas = new int[CHOICES * CHOICES];
        private final int[] otherHas = new int[CHOICES * CHOICES];
        private final int[] rests = new int[CHOICES * CHOICES];
        private int restCount;

        void aim(int atPerson, int atFact, int withoutOthers) {
            person = atPerson;
            fact = atFact;
            others = withoutOthers;
        }

        /** The WAY for what was aimed at; the others who KNOW it already don't matter. */
        boolean findWay(Rules rules, State now, int n) {
            length = 0;
            if (now.isKnown(person, fact)) {
                return true;
            }
            others &= ~now.knowers(fact);
            if (findLast(rules, now, 0)) {
                return true;
            }
            int persons = rules.court.persons.size;
            for (int one = 0; one < persons && n > 1; one++) {
                for (int other = 0; other < persons; other++) {
                    for (int question = 0; question < rules.court.questions.size; question++) {
                        if (one != other && rules.allowsToday(now, one, other, question)) {
                            first.take(now);
                            rules.pose(first, one, other, question);
                            if (findLast(rules, first, 1)) {
                                codes[0] = 100 * one + 10 * other + question;
                                return true;
                            }
                        }
                    }
                }
            }
            return false;
        }

        /** The last QUESTION of a WAY, at this place of it. */
        private boolean findLast(Rules rules, State ahead, int at) {
            int persons = rules.court.persons.size;
            for (int one = 0; one < persons; one++) {
                for (int other = 0; other < persons; other++) {
                    for (int question = 0; question < rules.court.questions.size; question++) {
                        if (one != other && canTell(rules.court, question)
                                && rules.allowsToday(ahead, one, other, question)) {
                            second.take(ahead);
                            rules.pose(second, one, other, question);
                            if (second.isKnown(person, fact) && (second.knowers(fact) & others) == 0) {
                                codes[at] = 100 * one + 10 * other + question;
                                length = at + 1;
                                return true;
                            }
                        }
                    }
                }
            }
            return false;
        }

        /** Spares trying the others: only by what is supposed or asked the FACT comes to be known. */
        private boolean canTell(Court court, int question) {
            return court.asks[question] == fact || (court.supposed(question) >> fact & 1) != 0;
        }

        /** The DAY of a PERSON; false: fewer than n can be asked. */
        boolean findDay(Rules rules, State now, int one, int n) {
            most = NONE;
            for (int other = 0; other < rules.court.persons.size; other++) {
                for (int question = 0; question < rules.court.questions.size; question++) {
                    if (other != one && rules.allowsToday(now, one, other, question)) {
                        first.take(now);
                        rules.pose(first, one, other, question);
                        if (n == 1) {
                            offer(first.knownInSum(), 10 * other + question, 0);
                        } else {
                            offerSeconds(rules, one, 10 * other + question);
                        }
                    }
                }
            }
            return most != NONE;
        }

        private void offerSeconds(Rules rules, int one, int code) {
            for (int other = 0; other < rules.court.persons.size; other++) {
                for (int question = 0; question < rules.court.questions.size; question++) {
                    if (other != one && rules.allowsToday(first, one, other, question)) {
                        second.take(first);
                        rules.pose(second, one, other, question);
                        offer(second.knownInSum(), code, 10 * other + question);
                    }
                }
            }
        }

        private void offer(int sum, int code, int secondCode) {
            if (sum > most) {
                most = sum;
                codes[0] = code;
                codes[1] = secondCode;
            }
        }

        /** The RESTS of a DUEL: a hundred times the first one's QUESTION and the second one's. */
        void findRests(Rules rules, State now, int one, int other) {
            int none = rules.court.questions.size;
            for (int mine = 0; mine <= none; mine++) {
                for (int yours = 0; yours <= none; yours++) {
                    first.take(now);
                    askIfAllowed(rules, one, other, mine);
                    askIfAllowed(rules, other, one, yours);
                    int cell = CHOICES * mine + yours;
                    oneHas[cell] = Integer.bitCount(first.knows[one]) - 2 * first.lost[one];
                    otherHas[cell] = Integer.bitCount(first.knows[other]) - 2 * first.lost[other];
                }
            }
            restCount = 0;
            for (int mine = 0; mine <= none; mine++) {
                for (int yours = 0; yours <= none; yours++) {
                    if (isRest(mine, yours, none)) {
                        rests[restCount] = 100 * mine + yours;
                        restCount++;
                    }
                }
            }
        }

        private void askIfAllowed(Rules rules, int one, int other, int question) {
            if (question < rules.court.questions.size && rules.allowsToday(first, one, other, question)) {
                rules.pose(first, one, other, question);
            }
        }

        private boolean isRest(int mine, int yours, int none) {
            int cell = CHOICES * mine + yours;
            for (int another = 0; another <= none; another++) {
                if (oneHas[CHOICES * another + yours] > oneHas[cell]
                        || otherHas[CHOICES * mine + another] > otherHas[cell]) {
                    return false;
                }
            }
            return true;
        }
    }
}
