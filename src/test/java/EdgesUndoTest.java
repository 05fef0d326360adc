/** Promises 36 to 39, sentence by sentence: what lies at each edge that the document names, and right beyond it. */
public final class EdgesUndoTest {
    private static final Checks CHECKS = new Checks("EdgesUndoTest");
    private static final String TEXT = "fact f;fact g;fact h;person a 1 5 0;person b 5 2 0;person c 9 9 1;knows b g;knows c h;ask p plain none none g;ask q plain g none h;"
            + "talk a b p;talk a c q;nine 3;seed 3;law slip 10*lips;law hear 1;";

    public static void main(String[] args) {
        promise36();
        promise36TwentyAtMost();
        promise36EachKind();
        promise36WhatIsRefused();
        promise37();
        promise38();
        promise38AllButNotes();
        promise38AsOftenAsOneLikes();
        promise39();
        promise39KnotsAndKnown();
        fiveHundredAndTwelveCalls();
        CHECKS.end();
    }

    /** "The latest is undone: how many are left; NONE: none." */
    private static void promise36() {
        AskedCourt x = Checks.court(TEXT);
        CHECKS.due("36: none", x.undo(), -1);
        CHECKS.due("36: none still", x.undo(), -1);
        CHECKS.due("36: none without a TEXT", new AskedCourt().undo(), -1);
        String before = Checks.told(x);
        x.end();
        CHECKS.due("36: none is left", x.undo(), 0);
        CHECKS.due("36: none", x.undo(), -1);
        CHECKS.dueSame("36: all is as it was", Checks.told(x), before);
        x.tell(0, 0);
        x.tell(0, 1);
        x.tell(0, 2);
        CHECKS.due("36: two are left", x.undo(), 2);
        CHECKS.due("36: the latest first", x.person(0, 3), 3);
        CHECKS.due("36: another one instead", x.tell(1, 0), true);
        CHECKS.due("36: three", x.count(11), 3);
        CHECKS.due("36: that one is the latest", x.undo(), 2);
        CHECKS.due("36: it is undone", x.person(1, 3), 2);
        CHECKS.due("36: the others aren't", x.person(0, 3), 3);
    }

    /** "(20 at most)" */
    private static void promise36TwentyAtMost() {
        AskedCourt x = Checks.court(TEXT);
        for (int day = 1; day <= 20; day++) {
            x.end();
        }
        CHECKS.due("36: twenty", x.count(11), 20);
        for (int left = 19; left >= 0; left--) {
            CHECKS.due("36: left", x.undo(), left);
        }
        CHECKS.due("36: all twenty are undone", x.count(5), 0);
        CHECKS.due("36: none", x.undo(), -1);
        for (int day = 1; day <= 21; day++) {
            x.end();
        }
        CHECKS.due("36: twenty of twenty-one", x.count(11), 20);
        for (int left = 19; left >= 0; left--) {
            CHECKS.due("36: left", x.undo(), left);
        }
        CHECKS.due("36: the first one isn't undone", x.count(5), 1);
        CHECKS.due("36: none", x.undo(), -1);
        for (int i = 0; i < 45; i++) {
            x.send(0, i % 2 == 0 ? 3 : 0);
            CHECKS.due("36: twenty at most", x.count(11), Math.min(20, i + 1));
        }
        for (int i = 0; i < 7; i++) {
            CHECKS.due("36: seven are undone", x.undo(), 19 - i);
        }
        for (int i = 0; i < 9; i++) {
            x.end();
            CHECKS.due("36: nine more", x.count(11), Math.min(20, 14 + i));
        }
        for (int i = 0; i < 20; i++) {
            CHECKS.due("36: twenty", x.undo(), 19 - i);
        }
        CHECKS.due("36: the DAY ahead of the nine", x.count(5), 1);
        CHECKS.due("36: the ROOM ahead of the oldest of them", x.person(0, 2), 3);
        CHECKS.due("36: none", x.undo(), -1);
    }

    /** "Asking, telling, sending, ending a DAY by call can be undone" */
    private static void promise36EachKind() {
        AskedCourt x = Checks.court(TEXT);
        x.tell(0, 1);
        x.send(2, 0);
        String before = Checks.told(x);
        CHECKS.due("36: c lets slip", x.ask(0, 2, 1) >= 0, true);
        CHECKS.due("36: b or not", x.ask(0, 1, 0) >= 0, true);
        CHECKS.due("36: two asked", x.count(8), 2);
        x.undo();
        CHECKS.due("36: one asked", x.count(8) * 10 + x.person(0, 5), 11);
        x.undo();
        CHECKS.dueSame("36: asking", Checks.told(x), before);
        x.tell(1, 2);
        x.undo();
        CHECKS.dueSame("36: telling", Checks.told(x), before);
        x.send(1, 2);
        x.undo();
        CHECKS.dueSame("36: sending", Checks.told(x), before);
        x.ask(0, 1, 0);
        String asked = Checks.told(x);
        x.end();
        x.undo();
        CHECKS.dueSame("36: ending a DAY", Checks.told(x), asked);
        x.undo();
        CHECKS.dueSame("36: all of them", Checks.told(x), before);
        int first = x.ask(0, 1, 0);
        int second = x.ask(0, 1, 0);
        x.undo();
        x.undo();
        CHECKS.due("36: the numbers are undone, too", x.ask(0, 1, 0), first);
        CHECKS.due("36: and the next", x.ask(0, 1, 0), second);
    }

    /** What is refused, and what only looks, is nothing to undo. */
    private static void promise36WhatIsRefused() {
        AskedCourt x = Checks.court(TEXT);
        x.end();
        x.ask(0, 2, 0);
        x.ask(0, 0, 0);
        x.ask(0, 1, 1);
        x.tell(1, 1);
        x.tell(3, 0);
        x.send(0, 0);
        x.send(0, 4);
        x.note(0, 0, 0, true);
        x.strike(0);
        x.known(1);
        x.keep();
        x.all(0);
        x.tried(1, 0);
        x.chance(1, 0, 0);
        x.way(0, 1, 0, 2);
        CHECKS.due("36: the DAY alone", x.count(11), 1);
        CHECKS.due("36: it is undone", x.undo(), 0);
        CHECKS.due("36: DAY 0", x.count(5), 0);
        CHECKS.due("36: NOTES aren't undone", x.count(9), 2);
        CHECKS.due("36: nor by how many it is KNOWN", x.count(10), 1);
        x.feed(0, 0, 0, 0, 0);
        CHECKS.due("36: nor what is fed", x.undo(), -1);
        CHECKS.due("36: nor what is fed: the TAPE", x.feed(0, 0, 0, 0, 0), 40);
    }

    /** "An IMAGE is kept (in place of one ahead): which DAY it is." */
    private static void promise37() {
        AskedCourt x = new AskedCourt();
        CHECKS.due("37: without a TEXT", x.keep(), 0);
        x.end();
        CHECKS.due("38: without a TEXT", x.back(), 0);
        x = Checks.court(TEXT);
        CHECKS.due("37: DAY 0", x.keep(), 0);
        x.end();
        x.tell(0, 0);
        CHECKS.due("37: DAY 1, in place of it", x.keep(), 1);
        CHECKS.due("37: what can be undone stays", x.count(11), 2);
        x.end();
        x.tell(0, 2);
        CHECKS.due("38: the later one", x.back(), 1);
        CHECKS.due("38: f alone", x.person(0, 3), 1);
        x = Checks.court(TEXT);
        x.keep();
        String before = Checks.told(x);
        x.keep();
        CHECKS.dueSame("37: nothing changes", Checks.told(x), before);
    }

    /** "All (but NOTES) is as in the IMAGE (nothing to undo then): which DAY it is; NONE: there is none." */
    private static void promise38() {
        AskedCourt x = Checks.court(TEXT);
        x.end();
        String before = Checks.told(x);
        CHECKS.due("38: there is none", x.back(), -1);
        CHECKS.dueSame("38: nothing changes by none", Checks.told(x), before);
        CHECKS.due("38: there is none without a TEXT", new AskedCourt().back(), -1);
        x.keep();
        CHECKS.due("38: one is to undo", x.count(11), 1);
        CHECKS.due("38: at once", x.back(), 1);
        CHECKS.due("38: nothing to undo then", x.count(11), 0);
        CHECKS.due("38: nothing is undone", x.undo(), -1);
        CHECKS.due("38: the DAY stays", x.count(5), 1);
        Checks.tell(x, "fact f;fact f;");
        CHECKS.due("38: it stays by a TEXT with a FAULT", x.back(), 1);
        Checks.tell(x, "fact f;");
        CHECKS.due("38: not by another TEXT", x.back(), -1);
    }

    private static void promise38AllButNotes() {
        AskedCourt x = Checks.court(TEXT);
        x.send(2, 0);
        x.tell(0, 1);
        x.ask(0, 1, 0);
        x.ask(0, 2, 1);
        x.end();
        x.ask(1, 0, 0);
        x.keep();
        int[] answers = {x.ask(0, 1, 0), x.ask(0, 1, 0), x.ask(0, 2, 1)};
        x.send(0, 3);
        x.send(1, 2);
        x.tell(2, 0);
        x.tell(1, 0);
        x.end();
        x.end();
        CHECKS.due("38: the DAY of the IMAGE", x.back(), 1);
        CHECKS.due("38: nothing to undo", x.count(11), 0);
        AskedCourt same = Checks.court(TEXT);
        same.send(2, 0);
        same.tell(0, 1);
        same.ask(0, 1, 0);
        same.ask(0, 2, 1);
        same.end();
        same.ask(1, 0, 0);
        same.keep();
        same.back();
        CHECKS.dueSame("38: all is as in the IMAGE", Checks.told(x), Checks.told(same));
        CHECKS.due("38: the numbers, too", x.ask(0, 1, 0), answers[0]);
        CHECKS.due("38: the next", x.ask(0, 1, 0), answers[1]);
        CHECKS.due("38: the one behind it", x.ask(0, 2, 1), answers[2]);
        x.note(0, 0, 0, true);
        x.note(1, 0, 0, false);
        x.strike(0);
        x.back();
        CHECKS.due("38: but NOTES", x.count(9), 3);
        CHECKS.due("38: they go on", x.note(0, 0, 0, false), 3);
        CHECKS.due("38: all of them are KNOWN", x.count(10), 4);
    }

    private static void promise38AsOftenAsOneLikes() {
        AskedCourt x = Checks.court(TEXT);
        x.end();
        x.keep();
        for (int i = 0; i < 5; i++) {
            x.end();
            x.tell(0, 0);
            CHECKS.due("38: to undo", x.count(11), i == 0 ? 3 : 2);
            CHECKS.due("38: back once more", x.back(), 1);
            CHECKS.due("38: FACTS", x.person(0, 3), 0);
            CHECKS.due("38: nothing to undo", x.undo(), -1);
        }
        x.end();
        CHECKS.due("36: behind it one can be undone", x.undo(), 0);
        CHECKS.due("36: to the IMAGE's DAY", x.count(5), 1);
        CHECKS.due("36: no further", x.undo(), -1);
    }

    /** "NONE for another what." */
    private static void promise39() {
        AskedCourt x = Checks.court(TEXT);
        int[] first = {3, 3, 2, 2, 4, 0, 2, 0, 0, 0, 0, 0};
        for (int what = 0; what < 12; what++) {
            CHECKS.due("39: count(" + what + ") at first", x.count(what), first[what]);
        }
        for (int none : Checks.beyond(12)) {
            CHECKS.due("39: another what " + none, x.count(none), -1);
        }
        x.tell(0, 1);
        x.send(2, 0);
        int lost = x.ask(0, 2, 1) + x.ask(0, 1, 0) + x.ask(0, 1, 0) + x.ask(2, 1, 0);
        CHECKS.due("39: FACTS KNOWN in sum", x.count(6), Integer.bitCount(x.person(0, 3)) + Integer.bitCount(x.person(1, 3))
                + Integer.bitCount(x.person(2, 3)));
        CHECKS.due("39: how often all LOST", x.count(7), lost);
        CHECKS.due("39: somebody LOST", lost > 0, true);
        CHECKS.due("39: asked in all", x.count(8), 4);
        x.end();
        CHECKS.due("39: the DAY", x.count(5), 1);
        x.ask(0, 1, 0);
        CHECKS.due("39: asked in all on both DAYS", x.count(8), 5);
        CHECKS.due("39: what can be undone", x.count(11), 8);
        x.note(0, 0, 0, true);
        x.note(0, 0, 0, false);
        x.strike(1);
        CHECKS.due("39: NOTES, STRIKES too", x.count(9), 3);
        String full = "fact a;fact b;fact c;fact d;fact e;fact f;fact g;fact h;person a 0 0 0;person b 0 0 0;person c 0 0 0;person d 0 0 0;person e 0 0 0;"
                + "ask a idle none none none;ask b idle none none none;ask c idle none none none;ask d idle none none none;"
                + "ask e idle none none none;ask f idle none none none;ask g idle none none none;ask h idle none none none;";
        x = Checks.court(full);
        CHECKS.due("39: eight FACTS, five PERSONS, eight QUESTIONS", x.count(0) * 100 + x.count(1) * 10 + x.count(2), 858);
        for (int i = 0; i < 40; i++) {
            x.tell(i / 8, i % 8);
        }
        CHECKS.due("39: forty in sum", x.count(6), 40);
    }

    private static void promise39KnotsAndKnown() {
        AskedCourt x = Checks.court("law slip not (1+2)*3 < lips and day or 5;law hear wit;");
        CHECKS.due("39: KNOTS of both laws", x.count(4), 13);
        x = Checks.court(TEXT);
        CHECKS.due("39: by none of none", x.count(10), 0);
        x.note(0, 0, 0, true);
        CHECKS.due("39: by all of one", x.count(10), 1);
        x.known(0);
        CHECKS.due("39: by none", x.count(10), 0);
        x.known(1);
        x.note(0, 0, 0, true);
        CHECKS.due("39: by one of two", x.count(10), 1);
        x.known(3);
        CHECKS.due("39: by one of two still", x.count(10), 1);
        x.known(-1);
        CHECKS.due("39: by both", x.count(10), 2);
    }

    /** "An object is used for at most 512 calls after it has been made": the last of them is answered as the first. */
    private static void fiveHundredAndTwelveCalls() {
        AskedCourt x = new AskedCourt();
        for (int i = 1; i <= 500; i++) {
            CHECKS.due("512: DAY " + i, x.end(), i);
        }
        CHECKS.due("512: the 501st", x.keep(), 500);
        for (int i = 0; i < 5; i++) {
            CHECKS.due("512: undone", x.undo(), 19 - i);
            CHECKS.due("512: the DAY", x.count(5), 499 - i);
        }
        CHECKS.due("512: the 512th", x.back(), 500);
    }
}
