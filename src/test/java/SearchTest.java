/** Promises 22 to 27: way, step, care, best, rests, rest. */
public final class SearchTest {
    private static final Checks CHECKS = new Checks("SearchTest");
    /** a must ask b for g (p) to be able to ask c for h (q); by r it is asked without supposing, of d alone. */
    private static final String STEPS = "fact f;fact g;fact h;person a 0 0 0;person b 9 0 0;person c 9 0 0;person d 9 0 1;"
            + "knows a f;knows b g;knows c h;ask p plain f none g;ask q plain g none h;ask r idle h none none;";

    public static void main(String[] args) {
        ways();
        othersDontLearn();
        nineMatters();
        wrongWays();
        care();
        days();
        wrongDays();
        duels();
        duelsByNine();
        CHECKS.end();
    }

    private static void ways() {
        AskedCourt x = Checks.court(STEPS);
        CHECKS.due("KNOWN", x.way(0, 0, 0, 1), 0);
        CHECKS.due("no step of 0", x.step(0, 0, 0, 1, 0), -2);
        CHECKS.due("KNOWN to the others too", x.way(0, 0, 2, 1), 0);
        CHECKS.due("one", x.way(0, 1, 0, 1), 1);
        CHECKS.due("a asks b p", x.step(0, 1, 0, 1, 0), 10);
        CHECKS.due("the fewest of two", x.way(0, 1, 0, 2), 1);
        CHECKS.due("h: not by one but of b", x.way(0, 2, 0, 1), 1);
        CHECKS.due("b asks c q", x.step(0, 2, 0, 1, 0), 121);
        x.send(1, 1);
        CHECKS.due("b is elsewhere: c supposes h by r", x.step(0, 2, 0, 2, 0), 202);
        CHECKS.due("g is elsewhere", x.way(0, 1, 0, 2), -2);
        x = Checks.court(STEPS + "law hear 0;law slip 100*(lips=9);");
        x.tell(3, 1);
        x.send(3, 0);
        x.send(1, 1);
        CHECKS.due("d asks q", x.way(0, 2, 0, 1), 1);
        CHECKS.due("d asks c q", x.step(0, 2, 0, 1, 0), 321);
        x = Checks.court("fact f;fact g;person a 0 0 0;person b 9 0 0;person c 9 0 0;knows b f;knows c g;"
                + "ask p plain none none f;ask q plain f none g;");
        CHECKS.due("a: b can ask at once", x.step(0, 1, 0, 2, 0), 121);
        CHECKS.due("c learns f by two at most", x.way(2, 0, 0, 2), 1);
        CHECKS.due("the first: a asks b", x.step(2, 0, 0, 2, 0), 10);
        x.send(0, 1);
        x.send(1, 1);
        CHECKS.due("f in ROOM 1", x.step(0, 0, 0, 1, 0), 10);
        CHECKS.due("g isn't there", x.way(0, 1, 0, 2), -2);
    }

    private static void othersDontLearn() {
        AskedCourt x = Checks.court("fact f;fact g;fact h;person a 0 9 0;person b 9 0 0;person c 0 0 0;knows b f;knows a g;knows b h;"
                + "ask p plain none none f;ask q plain f none none;ask r plain g none f;ask s back f none none;");
        CHECKS.due("c learns it by any", x.way(0, 0, 4, 2), 1);
        CHECKS.due("back: b asks c s, who doesn't hear", x.step(0, 0, 4, 2, 0), 103);
        CHECKS.due("who knows it already may", x.way(0, 0, 2, 1), 1);
        CHECKS.due("the first", x.step(0, 0, 2, 1, 0), 10);
        CHECKS.due("both others, b knows it", x.step(0, 0, 6, 1, 0), 103);
        x.send(1, 1);
        CHECKS.due("b is elsewhere", x.way(0, 0, 0, 2), -2);
        AskedCourt two = Checks.court("fact f;fact g;person a 0 9 0;person b 9 0 0;person c 0 0 0;knows b f;"
                + "ask p plain none none g;ask q plain f none none;law hear wit=9;");
        two.tell(2, 1);
        CHECKS.due("g of c: c has LIPS 0", two.way(0, 1, 0, 2), -2);
        AskedCourt pair = Checks.court("fact f;fact g;person a 0 9 0;person b 9 0 0;person c 9 0 0;knows b f;knows c g;"
                + "ask q plain none none f;ask s plain f none g;nine 1;");
        CHECKS.due("b asks c at once", pair.way(0, 1, 0, 2), 1);
        pair.send(1, 1);
        pair.send(0, 1);
        CHECKS.due("a learns f of b", pair.way(0, 0, 0, 2), 1);
        AskedCourt two2 = Checks.court("fact f;fact g;person a 9 9 0;person b 9 0 0;knows b f;knows a g;"
                + "ask s double f g none;ask q plain g none none;law slip 0;");
        CHECKS.due("a asks b q, b asks a s: two", two2.way(0, 0, 0, 2), 2);
        CHECKS.due("not by one", two2.way(0, 0, 0, 1), -2);
        CHECKS.due("first step", two2.step(0, 0, 0, 2, 0), 11);
        CHECKS.due("second step", two2.step(0, 0, 0, 2, 1), 100);
        CHECKS.due("no third step", two2.step(0, 0, 0, 2, 2), -2);
        CHECKS.due("by one: no step", two2.step(0, 0, 0, 1, 0), -2);
    }

    private static void nineMatters() {
        String text = "fact f;fact g;person a 0 9 0;person b 9 0 0;person c 0 0 0;knows b f;knows b g;"
                + "ask p plain f none none;ask q plain none none f;ask r plain f none g;law hear 0;";
        AskedCourt x = Checks.court(text + "nine 2;");
        x.send(2, 1);
        CHECKS.due("two by one PERSON", x.way(0, 1, 0, 2), 2);
        CHECKS.due("first f", x.step(0, 1, 0, 2, 0), 11);
        CHECKS.due("then g", x.step(0, 1, 0, 2, 1), 12);
        x = Checks.court(text + "nine 1;");
        x.send(2, 1);
        CHECKS.due("nine 1", x.way(0, 1, 0, 2), -2);
        x.ask(0, 1, 1);
        CHECKS.due("nine are asked", x.way(0, 1, 0, 2), -2);
        x.end();
        CHECKS.due("another DAY", x.way(0, 1, 0, 2), 1);
        CHECKS.due("its step", x.step(0, 1, 0, 2, 0), 12);
    }

    private static void wrongWays() {
        AskedCourt x = Checks.court(STEPS);
        CHECKS.due("n 0", x.way(0, 1, 0, 0), -1);
        CHECKS.due("n 3", x.way(0, 1, 0, 3), -1);
        CHECKS.due("no such PERSON", x.way(4, 1, 0, 1), -1);
        CHECKS.due("no such FACT", x.way(0, 3, 0, 1), -1);
        CHECKS.due("FACT -1", x.way(0, -1, 0, 1), -1);
        CHECKS.due("the PERSON among the others", x.way(0, 1, 1, 1), -1);
        CHECKS.due("others who aren't there", x.way(0, 1, 16, 1), -1);
        CHECKS.due("others below 0", x.way(0, 1, -2, 1), -1);
        CHECKS.due("all others", x.way(0, 1, 14, 2), -2);
        CHECKS.due("step likewise", x.step(0, 1, 1, 1, 0), -1);
        CHECKS.due("step n 3", x.step(0, 1, 0, 3, 0), -1);
        CHECKS.due("k below 0", x.step(0, 1, 0, 1, -1), -1);
        CHECKS.due("k beyond", x.step(0, 1, 0, 1, Integer.MAX_VALUE), -2);
    }

    private static void care() {
        AskedCourt x = Checks.court("fact f;fact g;person a 0 0 0;person b 9 0 0;person c 0 0 0;knows b f;knows b g;knows a f;knows c f;"
                + "ask p plain none none f;ask q plain none none g;ask r idle none none g;ask s plain g none g;ask t plain none none none;"
                + "ask u plain f none g;nine 1;");
        CHECKS.due("g by q, u; f is known to all", x.care(1), 34);
        CHECKS.due("LIPS 0", x.care(0), 0);
        x.tell(0, 1);
        CHECKS.due("c doesn't know g; a may ask s, too", x.care(1), 42);
        x.ask(0, 2, 4);
        CHECKS.due("a has asked: c asks q, u", x.care(1), 34);
        x.ask(2, 0, 4);
        CHECKS.due("nobody may ask", x.care(1), 0);
        x.end();
        x.tell(2, 1);
        CHECKS.due("all know it", x.care(1), 0);
        x = Checks.court("fact f;person a 0 0 0;person b 9 9 0;person c 0 0 0;knows a f;ask p back f none f;");
        CHECKS.due("b learns it by the question and lets it slip to c", x.care(1), 1);
        x.send(2, 1);
        CHECKS.due("who else is there knew it", x.care(1), 0);
        CHECKS.due("no such PERSON", x.care(3), -1);
        CHECKS.due("PERSON -1", x.care(-1), -1);
    }

    private static void days() {
        AskedCourt x = Checks.court(STEPS + "nine 2;");
        CHECKS.due("one: g for a and c, f for b and c", x.best(0, 1, 0), 7);
        CHECKS.due("asked of b", x.best(0, 1, 1), 10);
        CHECKS.due("no second", x.best(0, 1, 2), -2);
        CHECKS.due("two: then h for a and b", x.best(0, 2, 0), 9);
        CHECKS.due("first", x.best(0, 2, 1), 10);
        CHECKS.due("second", x.best(0, 2, 2), 21);
        CHECKS.due("d is alone", x.best(3, 1, 0), -3);
        CHECKS.due("d is alone: what 1", x.best(3, 1, 1), -3);
        x.ask(0, 1, 2);
        CHECKS.due("can't be asked: not counted", x.count(8), 0);
        x.ask(0, 2, 0);
        CHECKS.due("one is left", x.best(0, 1, 0) > 0, true);
        CHECKS.due("but not two", x.best(0, 2, 0), -3);
        x = Checks.court("fact f;fact g;person a 0 0 0;person b 9 0 0;person c 9 0 0;knows c f;ask p plain none none f;ask q plain none none f;");
        CHECKS.due("several: the first", x.best(0, 1, 1), 20);
        CHECKS.due("several of two: the first", x.best(0, 2, 1), 10);
        CHECKS.due("several of two: then the first that tells", x.best(0, 2, 2), 20);
        x = Checks.court("fact f;fact g;person a 0 0 0;person b 9 0 0;person c 9 0 0;knows c f;knows c g;ask o idle none none f;"
                + "ask p plain none none f;ask q plain f none g;");
        CHECKS.due("QUESTION 1 of c", x.best(0, 1, 1), 21);
        CHECKS.due("FACTS in sum", x.best(0, 1, 0), 4);
        CHECKS.due("two: QUESTION 1 of c", x.best(0, 2, 1), 21);
        CHECKS.due("two: QUESTION 2 of c", x.best(0, 2, 2), 22);
        CHECKS.due("two: FACTS in sum", x.best(0, 2, 0), 6);
    }

    private static void wrongDays() {
        AskedCourt x = Checks.court(STEPS);
        CHECKS.due("n 0", x.best(0, 0, 0), -1);
        CHECKS.due("n 3", x.best(0, 3, 0), -1);
        CHECKS.due("what 3", x.best(0, 1, 3), -1);
        CHECKS.due("what -1", x.best(0, 1, -1), -1);
        CHECKS.due("no such PERSON", x.best(4, 1, 0), -1);
        CHECKS.due("PERSON -1", x.best(-1, 1, 0), -1);
    }

    private static void duels() {
        AskedCourt x = Checks.court("fact f;fact g;person a 9 0 0;person b 9 0 0;person c 9 0 1;knows a f;knows b g;"
                + "ask p plain none none f;ask q plain none none g;");
        // each makes the other one let slip: one more for who asks; two less for who LOST
        CHECKS.due("each asks what the other one knows", x.rests(0, 1), 1);
        CHECKS.due("q of a, p of b", x.rest(0, 1, 0), 100);
        CHECKS.due("from the other side", x.rest(1, 0, 0), 1);
        CHECKS.due("no second", x.rest(0, 1, 1), -2);
        CHECKS.due("k below 0", x.rest(0, 1, -1), -1);
        CHECKS.due("alike", x.rests(0, 0), -1);
        CHECKS.due("another ROOM", x.rests(0, 2), -1);
        CHECKS.due("another ROOM, rest", x.rest(0, 2, 0), -1);
        CHECKS.due("no such one", x.rests(0, 3), -1);
        CHECKS.due("no such one, rest", x.rest(-1, 0, 0), -1);
        x = Checks.court("fact f;fact g;person a 9 0 0;person b 9 0 0;knows a f;knows a g;ask p plain f none none;ask q plain f none g;");
        // whatever a asks, b learns f and may ask q then
        CHECKS.due("a had better not ask", x.rests(0, 1), 3);
        CHECKS.due("none, p", x.rest(0, 1, 0), 200);
        CHECKS.due("none, none", x.rest(0, 1, 2), 202);
        x = Checks.court("person a 9 0 0;person b 9 0 0;");
        CHECKS.due("no QUESTIONS: none and none", x.rests(0, 1), 1);
        CHECKS.due("none is 0 of 0", x.rest(0, 1, 0), 0);
        x = Checks.court("fact f;person a 0 0 0;person b 0 0 0;knows a f;ask p plain f none none;");
        // nobody has more or less by asking p but b, who learns f: no matter for a
        CHECKS.due("all rest", x.rests(0, 1), 4);
        CHECKS.due("the last one is none, none", x.rest(0, 1, 3), 101);
        CHECKS.due("the third one", x.rest(0, 1, 2), 100);
    }

    private static void duelsByNine() {
        String text = "fact f;person a 9 0 0;person b 9 0 0;knows b f;ask p plain none none f;ask q idle none none none;";
        AskedCourt x = Checks.court(text + "nine 1;");
        // if b asks p too, a lets slip what it has just learnt: then a had better not ask p
        CHECKS.due("one of them asks p", x.rests(0, 1), 4);
        CHECKS.due("p, q", x.rest(0, 1, 0), 1);
        CHECKS.due("p, none", x.rest(0, 1, 1), 2);
        CHECKS.due("q, p", x.rest(0, 1, 2), 100);
        CHECKS.due("none, p", x.rest(0, 1, 3), 200);
        x.ask(0, 1, 1);
        CHECKS.due("a may not ask: all are alike", x.rests(0, 1), 9);
        x.end();
        CHECKS.due("a may ask", x.rests(0, 1), 4);
        CHECKS.due("b first: a's p comes still", x.rests(1, 0), 3);
        CHECKS.due("by the first one's", x.rest(1, 0, 1), 100);
    }
}
