import java.nio.charset.StandardCharsets;

/** What the tests share: due answers are compared, and a text is put on the tape. */
final class Checks {
    private final String test;
    private int wrong;
    private int all;

    Checks(String test) {
        this.test = test;
    }

    void due(String what, long got, long want) {
        all++;
        if (got != want) {
            wrong++;
            System.out.println(test + ": " + what + " answered " + got + ", due is " + want);
        }
    }

    void due(String what, boolean got, boolean want) {
        due(what, got ? 1L : 0L, want ? 1L : 0L);
    }

    /** 0: nothing is thrown, 1: IndexOutOfBoundsException, 2: NoSuchElementException. */
    void dueThrown(String what, AskedCourt x, int person, int field, int want) {
        int got = 0;
        try {
            x.person(person, field);
        } catch (IndexOutOfBoundsException e) {
            got = 1;
        } catch (java.util.NoSuchElementException e) {
            got = 2;
        }
        due(what, got, want);
    }

    void end() {
        System.out.println(test + ": " + (all - wrong) + " of " + all + " answers are as due");
        if (wrong != 0) {
            System.exit(1);
        }
    }

    static int[] bytes(String text) {
        byte[] latin = text.getBytes(StandardCharsets.ISO_8859_1);
        int[] bytes = new int[latin.length];
        for (int i = 0; i < latin.length; i++) {
            bytes[i] = latin[i] & 255;
        }
        return bytes;
    }

    /** Feeds a text (blanks fill the last twenty) and answers the latest feed's answer. */
    static int feed(AskedCourt x, String text) {
        int[] bytes = bytes(text);
        int answer = 0;
        for (int at = 0; at < bytes.length; at += 20) {
            int[] five = new int[5];
            for (int i = 0; i < 20; i++) {
                five[i / 4] = five[i / 4] << 8 | (at + i < bytes.length ? bytes[at + i] : ' ');
            }
            answer = x.feed(five[0], five[1], five[2], five[3], five[4]);
        }
        return answer;
    }

    static int tell(AskedCourt x, String text) {
        feed(x, text);
        return x.text(text.length());
    }

    static AskedCourt court(String text) {
        AskedCourt x = new AskedCourt();
        int lines = tell(x, text);
        if (lines < 0) {
            System.out.println("the text has fault " + x.fault(0) + " at " + x.fault(1) + ": " + text);
        }
        return x;
    }

    /** Numbers of which there is never a PERSON, a FACT, a QUESTION or a ROOM, the nearest ones given. */
    static int[] beyond(int size) {
        return new int[] {-1, size, -2, size + 1, 31, 32, 33, 64, 255, 256, Integer.MIN_VALUE, Integer.MIN_VALUE + 1,
            Integer.MAX_VALUE};
    }

    /** What an object tells of itself without being changed: to be compared ahead of a call and behind it (some 150 calls). */
    static String told(AskedCourt x) {
        StringBuilder told = new StringBuilder();
        for (int what = 0; what < 12; what++) {
            told.append(' ').append(x.count(what));
        }
        for (int person = 0; person < x.count(1); person++) {
            for (int what = 0; what < 6; what++) {
                told.append(' ').append(x.person(person, what));
            }
            told.append(' ').append(x.behind(x.count(3), person)).append(' ').append(x.knew(person));
            for (int what = 0; what < 2 && x.count(2) > 0; what++) {
                told.append(' ').append(x.law(what, person, 0));
            }
        }
        for (int question = 0; question < x.count(2); question++) {
            for (int what = 0; what < 4; what++) {
                told.append(' ').append(x.question(question, what));
            }
        }
        return told.toString();
    }

    void dueSame(String what, String got, String want) {
        all++;
        if (!got.equals(want)) {
            wrong++;
            System.out.println(test + ": " + what + ": '" + got + "', due is '" + want + "'");
        }
    }

    /** A text that a new object doesn't take, with its FAULT and the place of it. */
    void dueFault(String text, int fault, int place) {
        AskedCourt x = new AskedCourt();
        due("'" + text + "'", tell(x, text), -1);
        due("the FAULT of '" + text + "'", x.fault(0), fault);
        due("the place in '" + text + "'", x.fault(1), place);
    }

    /** A text that a new object takes, with how many LINES it has. */
    AskedCourt dueLines(String text, int lines) {
        AskedCourt x = new AskedCourt();
        due("'" + text + "'", tell(x, text), lines);
        due("no FAULT of '" + text + "'", x.fault(0), 0);
        due("no place in '" + text + "'", x.fault(1), -1);
        return x;
    }

    static int letters(String name) {
        int letters = 0;
        for (int i = 0; i < 6; i++) {
            letters = letters << 5 | (i < name.length() ? name.charAt(i) - 'a' + 1 : 0);
        }
        return letters;
    }
}
