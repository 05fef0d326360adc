/** Promises 28 to 34: slipped, behind, note, strike, known, knew, chance. */
public final class TalkTest {
    private static final Checks CHECKS = new Checks("TalkTest");
    private static final String TALK = "fact f;fact g;fact h;person a 0 5 0;person b 9 2 0;person c 9 9 0;knows a f;knows b g;knows c h;"
            + "ask p plain f none g;ask q plain g none h;ask r plain h none f;"
            + "talk b c q;talk c a r;talk a b p;talk b c q;nine 0;";

    public static void main(String[] args) {
        held();
        fromTheText();
        notes();
        strikes();
        knewMore();
        chances();
        wrongOnes();
        CHECKS.end();
    }

    private static void held() {
        AskedCourt x = Checks.court(TALK);
        int[][] known = {{1, 2, 4}, {7, 6, 6}, {7, 6, 6}, {7, 7, 7}, {7, 7, 7}};
        // b asks c q: a, c learn g; h slips to all; c asks a r: LIPS 0; a asks b p: f to all, g slips
        for (int n = 0; n <= 4; n++) {
            for (int person = 0; person < 3; person++) {
                CHECKS.due("behind(" + n + ", " + person + ")", x.behind(n, person), known[n][person]);
            }
        }
        CHECKS.due("a", x.slipped(0), 0);
        CHECKS.due("b", x.slipped(1), 1);
        CHECKS.due("c", x.slipped(2), 2);
        x = Checks.court("fact f;fact g;person a 0 5 0;person b 9 2 1;person c 0 0 0;knows a f;knows b g;ask p plain f none g;"
                + "talk a b p;talk b a p;talk a c p;");
        CHECKS.due("what can't be asked isn't", x.behind(2, 1), 2);
        CHECKS.due("the next is", x.behind(3, 2), 1);
    }

    private static void fromTheText() {
        AskedCourt x = Checks.court(TALK);
        x.tell(1, 0);
        x.send(2, 1);
        x.end();
        CHECKS.due("what was told later doesn't matter", x.behind(0, 1), 2);
        CHECKS.due("nor who went", x.slipped(2), 2);
        x = Checks.court("fact f;person a 0 0 0;person b 9 0 0;knows b f;ask p plain none none f;talk a b p;law slip 100*day;");
        x.end();
        CHECKS.due("the DAY of the TALK is 0", x.behind(1, 0), 0);
        CHECKS.due("of chance it is now", x.chance(1, 0, 0), 10);
    }

    private static void notes() {
        AskedCourt x = Checks.court(TALK);
        CHECKS.due("note 0", x.note(0, 0, 0, true), 0);
        CHECKS.due("note 1", x.note(4, 2, 2, false), 1);
        CHECKS.due("behind 5 of 4", x.note(5, 0, 0, true), -1);
        CHECKS.due("behind -1", x.note(-1, 0, 0, true), -1);
        CHECKS.due("no such PERSON", x.note(0, 3, 0, true), -1);
        CHECKS.due("no such FACT", x.note(0, 0, 3, true), -1);
        CHECKS.due("strike", x.strike(0), 2);
        CHECKS.due("strike of a strike", x.strike(2), 3);
        CHECKS.due("no such NOTE", x.strike(4), -1);
        CHECKS.due("NOTE -1", x.strike(-1), -1);
        CHECKS.due("NOTES", x.count(9), 4);
        CHECKS.due("known(5)", x.known(5), false);
        CHECKS.due("known(-2)", x.known(-2), false);
        CHECKS.due("by all", x.count(10), 4);
        CHECKS.due("known(4)", x.known(4), true);
        for (int i = 4; i < 24; i++) {
            CHECKS.due("note " + i, x.note(0, 0, 0, true), i);
        }
        CHECKS.due("there are 24", x.note(0, 0, 0, true), -1);
        CHECKS.due("there are 24, strike", x.strike(0), -1);
        CHECKS.due("by 4", x.count(10), 4);
        CHECKS.due("known(24)", x.known(24), true);
        CHECKS.due("by 24", x.count(10), 24);
        CHECKS.due("known(0)", x.known(0), true);
        CHECKS.due("by 0", x.count(10), 0);
        CHECKS.due("known(-1)", x.known(-1), true);
        CHECKS.due("by all of 24", x.count(10), 24);
    }

    private static void strikes() {
        AskedCourt x = Checks.court(TALK);
        x.note(0, 0, 1, true);
        CHECKS.due("a knew g beforehand", x.knew(0), 2);
        CHECKS.due("of b it can't be so", x.knew(1), 0);
        x.strike(0);
        CHECKS.due("struck", x.knew(0), 15);
        x.strike(1);
        CHECKS.due("the strike is struck", x.knew(0), 2);
        x.strike(2);
        CHECKS.due("that one, too", x.knew(0), 15);
        x.known(3);
        CHECKS.due("by three", x.knew(0), 2);
        x.strike(3);
        CHECKS.due("what comes later doesn't matter", x.knew(0), 2);
        x.known(2);
        CHECKS.due("by two", x.knew(0), 15);
        x.known(1);
        CHECKS.due("by one", x.knew(0), 2);
        x.known(0);
        CHECKS.due("by none", x.knew(0), 15);
        x.known(-1);
        CHECKS.due("by all", x.knew(0), 2);
        x.note(0, 0, 2, true);
        CHECKS.due("also those to come", x.knew(0), 0);
    }

    private static void knewMore() {
        AskedCourt x = Checks.court(TALK);
        CHECKS.due("without NOTES", x.knew(2), 15);
        x.note(1, 0, 0, true);
        CHECKS.due("what is so anyway", x.knew(2), 15);
        x.note(0, 2, 0, false);
        CHECKS.due("c didn't know f beforehand", x.knew(2), 14);
        CHECKS.due("a's f is no more", x.knew(0), 15);
        x.note(2, 1, 0, true);
        CHECKS.due("b knew f behind 2: b did beforehand", x.knew(1), 1);
        CHECKS.due("by nothing more of a", x.knew(0), 0);
        x = Checks.court("fact f;fact g;person a 0 0 0;person b 9 0 0;person c 0 0 0;knows a f;ask p plain f none g;talk a b p;");
        x.note(1, 2, 1, true);
        CHECKS.due("b let it slip: b knew it", x.knew(1), 2);
        CHECKS.due("or c knew it itself", x.knew(2), 2);
        CHECKS.due("a's knowing tells c nothing", x.knew(0), 0);
        x = Checks.court("fact f;fact g;person a 0 0 0;person b 9 0 0;person c 0 0 0;knows b f;ask p plain none none f;talk a b p;law slip 50*heard-50;");
        x.note(1, 2, 0, false);
        CHECKS.due("with g b would have let slip f", x.knew(1), 5);
    }

    private static void chances() {
        AskedCourt x = Checks.court("fact f;fact g;person a 0 0 0;person b 6 0 0;person c 3 0 0;knows b f;knows c g;"
                + "ask p plain none none f;ask q plain f none g;talk a b p;talk a c q;nine 0;");
        for (int seed : new int[] {0, 1, 77, 2147483647}) {
            long number = seed;
            int f = 0;
            int g = 0;
            for (int i = 0; i < 10; i++) {
                number = (number * 1103515245L + 12345L) % 2147483648L;
                if (60 > number / 65536 % 100) {
                    f++;
                    number = (number * 1103515245L + 12345L) % 2147483648L;
                    g += 30 > number / 65536 % 100 ? 1 : 0;
                }
            }
            CHECKS.due("f by seed " + seed, x.chance(seed, 0, 0), f);
            CHECKS.due("g by seed " + seed, x.chance(seed, 0, 1), g);
        }
        CHECKS.due("KNOWN already", x.chance(5, 1, 0), 10);
        CHECKS.due("nothing changes", x.count(6), 2);
        x.send(1, 1);
        CHECKS.due("b is elsewhere now", x.chance(5, 0, 0), 0);
        x.undo();
        x.tell(0, 1);
        CHECKS.due("held now", x.chance(0, 0, 1), 10);
    }

    private static void wrongOnes() {
        AskedCourt x = Checks.court(TALK);
        CHECKS.due("slipped", x.slipped(3), -1);
        CHECKS.due("slipped -1", x.slipped(-1), -1);
        CHECKS.due("behind no such PERSON", x.behind(0, 3), -1);
        CHECKS.due("behind 5", x.behind(5, 0), -1);
        CHECKS.due("behind -1", x.behind(-1, 0), -1);
        CHECKS.due("knew", x.knew(3), -1);
        CHECKS.due("knew -1", x.knew(-1), -1);
        CHECKS.due("seed below 0", x.chance(-1, 0, 0), -1);
        CHECKS.due("chance of no such PERSON", x.chance(0, 3, 0), -1);
        CHECKS.due("chance of no such FACT", x.chance(0, 0, 3), -1);
    }
}
