import java.util.ArrayList;
import java.util.List;
import java.util.Random;

/** Runs of calls by chance (the same ones each time), compared with Model. */
public final class ModelRunsTest {
    private static final Checks CHECKS = new Checks("ModelRunsTest");

    public static void main(String[] args) {
        int runs = args.length > 0 ? Integer.parseInt(args[0]) : 400;
        int from = args.length > 1 ? Integer.parseInt(args[1]) : 0;
        for (int run = from; run < from + runs; run++) {
            new ModelRunsTest(run).play();
        }
        CHECKS.end();
    }

    private final int run;
    private final Random random;
    private final AskedCourt x = new AskedCourt();
    private final Model model = new Model();
    private int calls;

    private ModelRunsTest(int run) {
        this.run = run;
        random = new Random(run);
    }

    private int upTo(int most) {
        return random.nextInt(most + 1);
    }

    private void play() {
        while (calls < 470) {
            if (calls == 0 || upTo(60) == 0) {
                tellText();
            }
            call();
        }
    }

    private void due(String what, long got, long want) {
        CHECKS.due("run " + run + " call " + calls + " " + what, got, want);
        calls++;
    }

    // ---- texts

    private String pick(List<String> names) {
        return names.isEmpty() || upTo(200) == 0 ? "zz" : names.get(upTo(names.size() - 1));
    }

    private String some(List<String> names) {
        return upTo(3) == 0 || names.isEmpty() ? "none" : pick(names);
    }

    private String expression(int depth) {
        String[] names = {"lips", "wit", "lost", "heard", "room", "kind", "day"};
        String[] signs = {"+", "-", "*", "/", "<", "<=", "=", "<>", ">=", ">", " and ", " or ", "+", "*"};
        if (depth == 0 || upTo(3) == 0) {
            return upTo(1) == 0 ? names[upTo(6)] : String.valueOf(upTo(9) == 0 ? upTo(10100) : upTo(60));
        }
        if (upTo(6) == 0) {
            return " not " + expression(depth - 1);
        }
        String inner = expression(depth - 1) + signs[upTo(signs.length - 1)] + expression(depth - 1);
        return upTo(2) == 0 ? inner : "(" + inner + ")";
    }

    private String makeText() {
        List<String> facts = new ArrayList<>();
        List<String> persons = new ArrayList<>();
        List<String> questions = new ArrayList<>();
        StringBuilder text = new StringBuilder();
        int many = 1 + upTo(upTo(20) == 0 ? 8 : 7);
        for (int i = 0; i < many; i++) {
            facts.add("f" + (char) ('a' + i));
            text.append("fact ").append(facts.get(i)).append(";");
        }
        many = upTo(10) == 0 ? upTo(6) : 2 + upTo(3);
        int rooms = upTo(2);
        for (int i = 0; i < many; i++) {
            persons.add(String.valueOf((char) ('p' + i)));
            text.append("person ").append(persons.get(i)).append(' ').append(upTo(9)).append(' ').append(upTo(9))
                    .append(' ').append(upTo(rooms)).append(";");
        }
        boolean[] pairs = new boolean[100];
        for (int i = upTo(8); i > 0 && !persons.isEmpty(); i--) {
            int p = upTo(persons.size() - 1);
            int f = upTo(facts.size() - 1);
            if (!pairs[10 * p + f] || upTo(40) == 0) {
                text.append("knows ").append(persons.get(p)).append(' ').append(facts.get(f)).append(";");
            }
            pairs[10 * p + f] = true;
        }
        many = 1 + upTo(upTo(20) == 0 ? 8 : 7);
        String[] kinds = {"plain", "double", "back", "idle"};
        for (int i = 0; i < many; i++) {
            questions.add("q" + (char) ('a' + i));
            text.append("ask ").append(questions.get(i)).append(' ').append(kinds[upTo(3)]).append(' ')
                    .append(some(facts)).append(' ').append(some(facts)).append(' ').append(some(facts)).append(";");
        }
        many = upTo(upTo(20) == 0 ? 11 : 8);
        for (int i = 0; i < many && persons.size() > 1; i++) {
            int one = upTo(persons.size() - 1);
            int other = upTo(persons.size() - 1);
            if (one != other || upTo(40) == 0) {
                text.append("talk ").append(persons.get(one)).append(' ').append(persons.get(other)).append(' ')
                        .append(pick(questions)).append(";");
            }
        }
        if (upTo(1) == 0) {
            text.append("nine ").append(upTo(4)).append(";");
        }
        if (upTo(1) == 0) {
            text.append("seed ").append(upTo(99999)).append(";");
        }
        if (upTo(1) == 0) {
            text.append("law slip ").append(expression(3)).append(";");
        }
        if (upTo(2) == 0) {
            text.append("law hear\n").append(expression(3)).append(";");
        }
        return text.length() > 700 ? text.substring(0, 700) : text.toString();
    }

    private String spoiled(String text) {
        StringBuilder spoiled = new StringBuilder(text);
        String signs = ";()<>=+-*/ \nabfw019A\t{" + (char) 233 + (char) 0;
        String[] words = {" fact ", " none ", " not ", " or ", " and ", "(", "))", " lips ", ";law slip 1;", "<=", " nine 1;",
            " 12345 ", " abcdefg ", ";", "<>", "< =", "=="};
        for (int i = upTo(2); i >= 0 && spoiled.length() > 1; i--) {
            int at = upTo(spoiled.length() - 1);
            switch (upTo(3)) {
                case 0 -> spoiled.setCharAt(at, signs.charAt(upTo(signs.length() - 1)));
                case 1 -> spoiled.deleteCharAt(at);
                case 2 -> spoiled.insert(at, words[upTo(words.length - 1)]);
                default -> spoiled.setLength(at + 1);
            }
        }
        return spoiled.length() > 700 ? spoiled.substring(0, 700) : spoiled.toString();
    }

    private void tellText() {
        boolean spoil = calls > 0 && upTo(2) == 0;
        String text = makeText();
        for (int i = spoil ? 3 : 0; i >= 0; i--) {
            String told = spoil ? spoiled(text) : text;
            Checks.feed(x, told);
            int[] bytes = Checks.bytes(told);
            for (int at = 0; at < bytes.length; at += 20) {
                int[] five = new int[5];
                for (int k = 0; k < 20; k++) {
                    five[k / 4] = five[k / 4] << 8 | (at + k < bytes.length ? bytes[at + k] : ' ');
                }
                model.feed(five);
            }
            int n = upTo(30) == 0 ? told.length() + upTo(40) - 20 : told.length();
            due("text " + told.replace('\n', '~'), x.text(n), model.text(n));
            due("fault(0) " + told, x.fault(0), model.fault);
            due("fault(1) " + told, x.fault(1), model.place);
        }
    }

    // ---- calls

    private int odd() {
        int[] odds = {-1, -2, Integer.MIN_VALUE, Integer.MAX_VALUE, 8, 9, 31, 32, 33, 64};
        return odds[upTo(odds.length - 1)];
    }

    private int number(int size) {
        return upTo(40) == 0 ? odd() : size == 0 ? upTo(1) : upTo(upTo(25) == 0 ? size : size - 1);
    }

    private int person() {
        return number(model.persons());
    }

    private int fact() {
        return number(model.facts());
    }

    private int question() {
        return number(model.questions());
    }

    private long personAnswer(int p, int what) {
        try {
            return x.person(p, what);
        } catch (IndexOutOfBoundsException e) {
            return -1000;
        } catch (java.util.NoSuchElementException e) {
            return -2000;
        }
    }

    private void call() {
        int p = person();
        int o = person();
        int f = fact();
        int q = question();
        switch (upTo(46)) {
            case 0 -> {
                int a = random.nextInt();
                if (upTo(20) == 0) {
                    due("feed", x.feed(a, 1, 2, -3, p), model.feed(a, 1, 2, -3, p));
                }
            }
            case 1 -> {
                int what = number(4);
                int letters = upTo(1) == 0 ? Checks.letters("f" + (char) ('a' + upTo(8))) : Checks.letters("" + (char) ('p' + upTo(5)));
                due("named", x.named(what, letters), model.named(what, letters));
            }
            case 2, 3, 4 -> {
                int what = number(6);
                due("person " + p + " " + what, personAnswer(p, what), model.person(p, what));
            }
            case 5 -> {
                int what = number(4);
                due("question " + q + " " + what, x.question(q, what), model.question(q, what));
            }
            case 6 -> due("can " + p + " " + o + " " + q, x.can(p, o, q), model.can(p, o, q));
            case 7, 8 -> {
                int what = number(2);
                due("law " + what + " " + p + " " + q, x.law(what, p, q), model.law(what, p, q));
            }
            case 9, 10, 11, 12, 13 -> due("ask " + p + " " + o + " " + q, x.ask(p, o, q), model.ask(p, o, q));
            case 14 -> {
                if (upTo(3) == 0) {
                    due("tell " + p + " " + f, x.tell(p, f) ? 1 : 0, model.tell(p, f) ? 1 : 0);
                }
            }
            case 15 -> {
                int room = number(4);
                due("send " + p + " " + room, x.send(p, room) ? 1 : 0, model.send(p, room) ? 1 : 0);
            }
            case 16 -> due("end", x.end(), model.end());
            case 17 -> due("all " + p, x.all(p), model.all(p));
            case 18 -> due("never " + p + " " + f, x.never(p, f), model.never(p, f));
            case 19 -> {
                int want = x.away(p, f);
                boolean known = model.isPerson(p) && model.isFact(f) && model.now.knows.get(p).contains(f);
                due("away " + p + " " + f, want, known ? -2 : model.away(p, f));
            }
            case 20 -> due("spread " + f, x.spread(f), model.spread(f));
            case 21, 22 -> {
                int what = number(2);
                due("hint " + p + " " + f + " " + what, x.hint(p, f, what), model.hint(p, f, what));
            }
            case 23 -> due("unasked " + p, x.unasked(p), model.unasked(p));
            case 24 -> {
                int room = number(4);
                due("inRoom " + p + " " + room, x.inRoom(p, room), model.inRoom(p, room));
            }
            case 25 -> due("bestRoom " + p, x.bestRoom(p), model.bestRoom(p));
            case 26, 27 -> {
                int others = upTo(1) == 0 ? 0 : number(1 << model.persons());
                int n = upTo(30) == 0 ? odd() : 1 + upTo(upTo(3) == 0 ? 1 : 0);
                due("way " + p + " " + f + " " + others + " " + n, x.way(p, f, others, n), model.way(p, f, others, n));
            }
            case 28 -> {
                int others = upTo(1) == 0 ? 0 : number(1 << model.persons());
                int n = upTo(30) == 0 ? odd() : 1 + upTo(upTo(3) == 0 ? 1 : 0);
                int k = number(2);
                due("step " + p + " " + f + " " + others + " " + n + " " + k, x.step(p, f, others, n, k),
                        model.step(p, f, others, n, k));
            }
            case 29 -> due("care " + p, x.care(p), model.care(p));
            case 30 -> {
                int n = upTo(30) == 0 ? odd() : 1 + upTo(upTo(3) == 0 ? 1 : 0);
                int what = number(3);
                due("best " + p + " " + n + " " + what, x.best(p, n, what), model.best(p, n, what));
            }
            case 31 -> due("rests " + p + " " + o, x.rests(p, o), model.rests(p, o));
            case 32 -> {
                int k = upTo(20) == 0 ? odd() : upTo(10);
                due("rest " + p + " " + o + " " + k, x.rest(p, o, k), model.rest(p, o, k));
            }
            case 33 -> due("slipped " + p, x.slipped(p), model.slipped(p));
            case 34 -> {
                int n = number(model.told.talk.size() + 1);
                due("behind " + n + " " + p, x.behind(n, p), model.behind(n, p));
            }
            case 35, 36 -> {
                int n = number(model.told.talk.size() + 1);
                boolean is = model.isPerson(p) && model.isFact(f) && model.behind(n, p) >= 0
                        && (upTo(5) == 0 ? upTo(1) == 0 : (model.behind(n, p) >> f & 1) == 1);
                due("note " + n + " " + p + " " + f + " " + is, x.note(n, p, f, is), model.note(n, p, f, is));
            }
            case 37 -> {
                int note = number(model.notes.size());
                due("strike " + note, x.strike(note), model.strike(note));
            }
            case 38 -> {
                int n = upTo(2) == 0 ? -1 : number(model.notes.size() + 1);
                due("known " + n, x.known(n) ? 1 : 0, model.known(n) ? 1 : 0);
            }
            case 39, 40 -> due("knew " + p, x.knew(p), model.knew(p));
            case 41 -> {
                int seed = upTo(20) == 0 ? odd() : random.nextInt() & Integer.MAX_VALUE;
                due("chance " + seed + " " + p + " " + f, x.chance(seed, p, f), model.chance(seed, p, f));
            }
            case 42 -> {
                int what = number(5);
                int i = what == 2 ? p : what == 3 ? q : number(1);
                due("tried " + what + " " + i, x.tried(what, i), model.tried(what, i));
            }
            case 43 -> due("undo", x.undo(), model.undo());
            case 44 -> due("keep", x.keep(), model.keep());
            case 45 -> {
                if (upTo(3) == 0) {
                    due("back", x.back(), model.back());
                }
            }
            default -> {
                int what = number(12);
                due("count " + what, x.count(what), model.count(what));
            }
        }
    }
}
