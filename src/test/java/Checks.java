import java.nio.charset.StandardCharsets;

/** What the tests share: due answers are compared, and a text is put on the tape. */
final class Checks {
    private final String test;
    private int wrong;
    private int all;

    Checks(String test) {
        this.test = test;
    }

    void due(String what, long got, long want) {
        all++;
        if (got != want) {
            wrong++;
            System.out.println(test + ": " + what + " answered " + got + ", due is " + want);
        }
    }

    void due(String what, boolean got, boolean want) {
        due(what, got ? 1L : 0L, want ? 1L : 0L);
    }

    /** 0: nothing is thrown, 1: IndexOutOfBoundsException, 2: NoSuchElementException. */
    void dueThrown(String what, AskedCourt x, int person, int field, int want) {
        int got = 0;
        try {
            x.person(person, field);
        } catch (IndexOutOfBoundsException e) {
            got = 1;
        } catch (java.util.NoSuchElementException e) {
            got = 2;
        }
        due(what, got, want);
    }

    void end() {
        System.out.println(test + ": " + (all - wrong) + " of " + all + " answers are as due");
        if (wrong != 0) {
            System.exit(1);
        }
    }

    static int[] bytes(String text) {
        byte[] latin = text.getBytes(StandardCharsets.ISO_8859_1);
        int[] bytes = new int[latin.length];
        for (int i = 0; i < latin.length; i++) {
            bytes[i] = latin[i] & 255;
        }
        return bytes;
    }

    /** Feeds a text (blanks fill the last twenty) and answers the latest feed's answer. */
    static int feed(AskedCourt x, String text) {
        int[] bytes = bytes(text);
        int answer = 0;
        for (int at = 0; at < bytes.length; at += 20) {
            int[] five = new int[5];
            for (int i = 0; i < 20; i++) {
                five[i / 4] = five[i / 4] << 8 | (at + i < bytes.length ? bytes[at + i] : ' ');
            }
            answer = x.feed(five[0], five[1], five[2], five[3], five[4]);
        }
        return answer;
    }

    static int tell(AskedCourt x, String text) {
        feed(x, text);
        return x.text(text.length());
    }

    static AskedCourt court(String text) {
        AskedCourt x = new AskedCourt();
        int lines = tell(x, text);
        if (lines < 0) {
            System.out.println("the text has fault " + x.fault(0) + " at " + x.fault(1) + ": " + text);
        }
        return x;
    }

    static int letters(String name) {
        int letters = 0;
        for (int i = 0; i < 6; i++) {
            letters = letters << 5 | (i < name.length() ? name.charAt(i) - 'a' + 1 : 0);
        }
        return letters;
    }
}
