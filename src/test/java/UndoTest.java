/** Promises 36 to 39: undo, keep, back, count. */
public final class UndoTest {
    private static final Checks CHECKS = new Checks("UndoTest");
    private static final String TEXT = "fact f;fact g;person a 0 5 0;person b 5 2 0;knows b g;ask p plain none none g;talk a b p;"
            + "seed 3;law slip 50;law hear 1;";

    public static void main(String[] args) {
        undoing();
        twentyAtMost();
        numbersAreUndone();
        images();
        counts();
        CHECKS.end();
    }

    private static void undoing() {
        AskedCourt x = Checks.court(TEXT);
        CHECKS.due("nothing", x.undo(), -1);
        x.send(0, 1);
        x.tell(0, 0);
        x.end();
        x.send(0, 0);
        x.ask(0, 1, 0);
        CHECKS.due("what can't be isn't to undo", x.tell(0, 0), false);
        CHECKS.due("five", x.count(11), 5);
        CHECKS.due("ask", x.undo(), 4);
        CHECKS.due("nothing asked", x.count(8), 0);
        CHECKS.due("asked this DAY", x.person(0, 5), 0);
        CHECKS.due("send", x.undo(), 3);
        CHECKS.due("where it was", x.person(0, 2), 1);
        CHECKS.due("end", x.undo(), 2);
        CHECKS.due("the DAY", x.count(5), 0);
        CHECKS.due("tell", x.undo(), 1);
        CHECKS.due("FACTS", x.person(0, 3), 0);
        CHECKS.due("send", x.undo(), 0);
        CHECKS.due("where it was at first", x.person(0, 2), 0);
        CHECKS.due("nothing is left", x.undo(), -1);
        x.ask(0, 1, 0);
        x.note(0, 0, 0, true);
        x.end();
        x.undo();
        CHECKS.due("asked again on that DAY", x.person(0, 5), 1);
        CHECKS.due("NOTES stay", x.count(9), 1);
    }

    private static void twentyAtMost() {
        AskedCourt x = Checks.court(TEXT);
        for (int day = 1; day <= 50; day++) {
            x.end();
            CHECKS.due("what can be undone", x.count(11), Math.min(20, day));
        }
        for (int left = 19; left >= 0; left--) {
            CHECKS.due("left", x.undo(), left);
        }
        CHECKS.due("no more", x.undo(), -1);
        CHECKS.due("DAY 30", x.count(5), 30);
        x.end();
        CHECKS.due("one", x.count(11), 1);
        CHECKS.due("undone", x.undo(), 0);
        CHECKS.due("DAY 30 again", x.count(5), 30);
    }

    private static void numbersAreUndone() {
        AskedCourt x = Checks.court(TEXT + "nine 99;");
        int[] answers = new int[15];
        x.keep();
        for (int i = 0; i < 15; i++) {
            answers[i] = x.ask(0, 1, 0);
        }
        for (int i = 0; i < 15; i++) {
            x.undo();
        }
        for (int i = 0; i < 15; i++) {
            CHECKS.due("the same number again " + i, x.ask(0, 1, 0), answers[i]);
        }
        x.back();
        for (int i = 0; i < 15; i++) {
            CHECKS.due("the same number by the IMAGE " + i, x.ask(0, 1, 0), answers[i]);
        }
    }

    private static void images() {
        AskedCourt x = Checks.court(TEXT);
        CHECKS.due("none", x.back(), -1);
        x.end();
        x.tell(0, 0);
        CHECKS.due("kept on DAY 1", x.keep(), 1);
        CHECKS.due("undo stays", x.count(11), 2);
        x.send(1, 3);
        x.end();
        x.tell(1, 0);
        x.note(0, 0, 0, true);
        CHECKS.due("back on DAY 1", x.back(), 1);
        CHECKS.due("the ROOM", x.person(1, 2), 0);
        CHECKS.due("FACTS", x.person(1, 3), 2);
        CHECKS.due("FACTS ahead of it", x.person(0, 3), 1);
        CHECKS.due("NOTES stay", x.count(9), 1);
        CHECKS.due("nothing to undo", x.undo(), -1);
        x.end();
        CHECKS.due("back once more", x.back(), 1);
        x.end();
        CHECKS.due("in place of one ahead", x.keep(), 2);
        x.end();
        CHECKS.due("back to it", x.back(), 2);
    }

    private static void counts() {
        AskedCourt x = Checks.court(TEXT);
        int[] due = {2, 2, 1, 1, 2, 0, 1, 0, 0, 0, 0, 0};
        for (int what = 0; what < 12; what++) {
            CHECKS.due("count(" + what + ")", x.count(what), due[what]);
        }
        x.end();
        x.tell(0, 0);
        CHECKS.due("DAY", x.count(5), 1);
        CHECKS.due("FACTS KNOWN", x.count(6), 2);
        int lost = 0;
        for (int i = 0; i < 9; i++) {
            lost += x.ask(0, 1, 0);
        }
        CHECKS.due("LOST by all", x.count(7), lost);
        CHECKS.due("some LOST", lost > 0 && lost < 9, true);
        x.end();
        CHECKS.due("asked in all", x.count(8), 9);
        CHECKS.due("what 12", x.count(12), -1);
        CHECKS.due("what -1", x.count(-1), -1);
    }
}
