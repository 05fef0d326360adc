/** Promises 14 to 21 and 35: all, never, away, spread, hint, unasked, inRoom, bestRoom, tried. */
public final class AllTest {
    private static final Checks CHECKS = new Checks("AllTest");
    /** c lets f slip to b, who lets it slip to a in another ROOM only if sent there. */
    private static final String CHAIN = "fact f;fact g;fact h;person a 0 0 0;person b 9 0 0;person c 9 0 1;"
            + "knows c f;knows a g;ask p plain g none f;ask q plain f none h;";

    public static void main(String[] args) {
        chain();
        awayOnes();
        lostMatters();
        hints();
        unasked();
        rooms();
        tried();
        wrongOnes();
        CHECKS.end();
    }

    private static void chain() {
        AskedCourt x = Checks.court(CHAIN + "nine 0;");
        CHECKS.due("all(0): f isn't known in the ROOM", x.all(0), 2);
        CHECKS.due("all(1): what is supposed", x.all(1), 2);
        CHECKS.due("never(0, 0)", x.never(0, 0), 1);
        CHECKS.due("never of what is KNOWN", x.never(0, 1), 0);
        CHECKS.due("spread(1), nine doesn't matter", x.spread(1), 3);
        CHECKS.due("spread(0)", x.spread(0), 4);
        x.send(2, 0);
        CHECKS.due("all(0) with c there", x.all(0), 3);
        CHECKS.due("never(0, 0) with c there", x.never(0, 0), 0);
        CHECKS.due("spread(0) with c there", x.spread(0), 7);
        CHECKS.due("spread(2): nobody knows it", x.spread(2), 0);
        CHECKS.due("nothing is changed", x.count(6), 2);
        AskedCourt slow = Checks.court("fact a;fact b;fact c;person x 9 0 0;person y 9 0 0;knows x a;knows x b;knows x c;"
                + "ask p plain b none c;ask q plain a none b;ask r plain none none a;");
        CHECKS.due("three rounds", slow.all(1), 7);
        AskedCourt self = Checks.court("fact f;fact g;person a 9 0 0;person b 9 0 0;knows a f;knows a g;ask p plain g none f;law hear 0;");
        CHECKS.due("nobody asks oneself", self.all(1), 0);
        AskedCourt low = Checks.court("fact f;person a 0 0 0;person b 4 0 0;knows b f;ask p plain none none f;");
        CHECKS.due("40 isn't let slip as it goes", low.all(0), 0);
        AskedCourt high = Checks.court("fact f;person a 0 0 0;person b 5 0 0;knows b f;ask p plain none none f;");
        CHECKS.due("50 is", high.all(0), 1);
    }

    private static void awayOnes() {
        AskedCourt x = Checks.court("fact f;person a 0 0 0;person b 9 0 0;person c 9 0 0;person d 0 0 0;knows b f;knows c f;"
                + "ask p plain none none f;");
        CHECKS.due("both who could let it slip", x.away(0, 0), 6);
        CHECKS.due("KNOWN already", x.away(1, 0), -2);
        x = Checks.court("fact f;fact g;person a 0 0 0;person b 9 0 0;person c 0 0 0;knows b f;knows c g;ask p plain g none f;");
        CHECKS.due("the asked one or who asks: the least", x.away(0, 0), 2);
        CHECKS.due("g of a: who supposes it", x.away(0, 1), 4);
        CHECKS.due("f of c: only by b", x.away(2, 0), 2);
        CHECKS.due("never with all", Checks.court(CHAIN).away(0, 0), 0);
    }

    /** By LOST of an earlier round what is let slip changes; a round that adds only LOST is the last one. */
    private static void lostMatters() {
        AskedCourt x = Checks.court("fact f;fact g;person a 0 0 0;person b 0 0 0;knows b f;knows b g;"
                + "ask p plain none none f;ask q plain f none g;law slip 50*(heard=2)*(1-kind)*(lost<1)+50*(lost>1);");
        CHECKS.due("f once, then LOST is 1 for ever", x.all(0), 1);
        x = Checks.court("fact f;fact g;person a 0 0 0;person b 0 0 0;knows b f;knows b g;"
                + "ask q plain none none g;ask p plain none none f;law slip 50*(lost=0)+50*(lost>0);");
        CHECKS.due("both", x.all(0), 3);
        x = Checks.court("fact f;fact g;person a 0 0 0;person b 0 0 0;knows b f;knows b g;knows a f;"
                + "ask q plain none none g;ask p double none none f;law slip 50*kind+50*(lost>0);");
        CHECKS.due("the first round adds only LOST", x.all(0), 1);
        CHECKS.due("the first number of seed 0 is 0", x.ask(0, 1, 1), 1);
        CHECKS.due("ALL begins with who LOST by now", x.all(0), 3);
    }

    private static void hints() {
        AskedCourt x = Checks.court(CHAIN);
        CHECKS.due("by none", x.hint(0, 0, 0), -2);
        x.send(2, 0);
        CHECKS.due("isn't needed", x.hint(0, 0, 0), -2);
        CHECKS.due("KNOWN", x.hint(0, 1, 0), -2);
        x = Checks.court("fact f;fact g;fact h;person a 0 0 0;person b 9 0 0;person c 0 0 0;knows b f;ask p plain g none f;ask q plain h none g;");
        CHECKS.due("who is told", x.hint(2, 0, 0), 0);
        CHECKS.due("which FACT", x.hint(2, 0, 1), 1);
        x.send(0, 1);
        CHECKS.due("a is elsewhere: b is told", x.hint(2, 0, 0), 1);
        CHECKS.due("and lets c suppose it", x.hint(2, 0, 1), 1);
        x = Checks.court("fact f;person a 0 0 0;person b 9 0 0;ask p plain none none f;");
        CHECKS.due("the FACT itself doesn't count", x.hint(0, 0, 0), -2);
    }

    private static void unasked() {
        AskedCourt x = Checks.court("fact f;person a 0 0 0;person b 0 0 0;person c 0 0 1;knows a f;"
                + "ask p plain f none none;ask q plain none none none;nine 1;");
        CHECKS.due("a can ask all", x.unasked(0), 0);
        CHECKS.due("b not p", x.unasked(1), 1);
        CHECKS.due("c is alone", x.unasked(2), 3);
        x.ask(0, 1, 1);
        CHECKS.due("nine are asked", x.unasked(0), 3);
        CHECKS.due("no QUESTIONS", Checks.court("person a 0 0 0;").unasked(0), 0);
    }

    private static void rooms() {
        AskedCourt x = Checks.court(CHAIN);
        CHECKS.due("c in ROOM 0: f, g of three", x.inRoom(2, 0), 6);
        CHECKS.due("c where it is", x.inRoom(2, 1), 3);
        CHECKS.due("a with c: f, g of two", x.inRoom(0, 1), 4);
        CHECKS.due("b with c: f by q, nobody there knows g", x.inRoom(1, 1), 3);
        CHECKS.due("best of c", x.bestRoom(2), 0);
        CHECKS.due("best of a", x.bestRoom(0), 1);
        CHECKS.due("best of b", x.bestRoom(1), 0);
        CHECKS.due("c hasn't gone", x.person(2, 2), 1);
        CHECKS.due("several: the first", Checks.court("person a 0 0 3;").bestRoom(0), 0);
        x.send(2, 3);
        CHECKS.due("a with c in ROOM 3", x.inRoom(0, 3), 4);
        CHECKS.due("best of a is ROOM 3", x.bestRoom(0), 3);
    }

    private static void tried() {
        AskedCourt x = Checks.court(CHAIN + "ask r back g none none;");
        CHECKS.due("as it is", x.inRoom(2, 1), 3);
        CHECKS.due("all in ROOM 0", x.tried(1, 0), 6);
        x.send(2, 0);
        CHECKS.due("nobody lets slip: f by q, g by p", x.tried(0, 0), 6);
        CHECKS.due("without a", x.tried(2, 0), 2);
        CHECKS.due("without b", x.tried(2, 1), 4);
        CHECKS.due("without p: g isn't supposed but back", x.tried(3, 0), 4);
        CHECKS.due("without q", x.tried(3, 1), 6);
        x = Checks.court("fact f;person a 0 0 0;person b 0 1 0;knows a f;ask r back f none none;");
        CHECKS.due("WIT 1", x.inRoom(0, 0), 1);
        CHECKS.due("all have WIT 9", x.tried(4, 0), 2);
        x = Checks.court("fact f;person a 0 0 0;person b 0 1 0;knows a f;ask r plain f none none;law hear wit=9;");
        CHECKS.due("all have WIT 9 in laws", x.tried(4, 0), 2);
        x = Checks.court("fact f;person a 0 0 0;person b 9 0 0;knows b f;ask p plain none none f;");
        CHECKS.due("nobody lets slip", x.tried(0, 0), 1);
    }

    private static void wrongOnes() {
        AskedCourt x = Checks.court(CHAIN);
        int[] wrong = {-1, 3, 32, Integer.MIN_VALUE, Integer.MAX_VALUE};
        for (int w : wrong) {
            CHECKS.due("all " + w, x.all(w), -1);
            CHECKS.due("never " + w, x.never(w, 0), -1);
            CHECKS.due("never 0 " + w, x.never(0, w), -1);
            CHECKS.due("away " + w, x.away(w, 0), -1);
            CHECKS.due("away 0 " + w, x.away(0, w), -1);
            CHECKS.due("spread " + w, x.spread(w), -1);
            CHECKS.due("hint " + w, x.hint(w, 0, 0), -1);
            CHECKS.due("hint 0 " + w, x.hint(0, w, 0), -1);
            CHECKS.due("hint 0 0 " + w, x.hint(0, 0, w), -1);
            CHECKS.due("unasked " + w, x.unasked(w), -1);
            CHECKS.due("inRoom " + w, x.inRoom(w, 0), -1);
            CHECKS.due("bestRoom " + w, x.bestRoom(w), -1);
            CHECKS.due("tried 2 " + w, x.tried(2, w), -1);
            CHECKS.due("tried 3 " + w, x.tried(3, w), -1);
            CHECKS.due("tried 0 " + w, x.tried(0, w), -1);
            CHECKS.due("tried 1 " + w, x.tried(1, w), -1);
            CHECKS.due("tried 4 " + w, x.tried(4, w), -1);
        }
        CHECKS.due("inRoom 4", x.inRoom(0, 4), -1);
        CHECKS.due("inRoom -1", x.inRoom(0, -1), -1);
        CHECKS.due("hint what 2", x.hint(0, 0, 2), -1);
        CHECKS.due("tried 5", x.tried(5, 0), -1);
        CHECKS.due("tried -1", x.tried(-1, 0), -1);
    }
}
