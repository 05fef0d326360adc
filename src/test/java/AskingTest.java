/** Promises 6 to 13: person, question, can, law, ask, tell, send, end. */
public final class AskingTest {
    private static final Checks CHECKS = new Checks("AskingTest");
    private static final String BASE = "fact f;fact g;fact h;person a 0 5 0;person b 6 2 0;person c 3 9 0;"
            + "knows a f;knows b g;ask p plain f none g;ask q back f none none;ask r double f g h;ask s idle none none f;";

    public static void main(String[] args) {
        persons();
        questions();
        canAsk();
        laws();
        lawErrors();
        hearing();
        slipping();
        numbers();
        telling();
        sending();
        days();
        CHECKS.end();
    }

    private static void persons() {
        AskedCourt x = Checks.court(BASE + "nine 1;");
        int[] b = {6, 2, 0, 2, 0, 0};
        for (int what = 0; what < 6; what++) {
            CHECKS.due("person(1, " + what + ")", x.person(1, what), b[what]);
        }
        x.send(1, 3);
        x.tell(1, 2);
        CHECKS.due("its ROOM now", x.person(1, 2), 3);
        CHECKS.due("KNOWN now", x.person(1, 3), 6);
        CHECKS.dueThrown("person(2, 5)", x, 2, 5, 0);
        CHECKS.dueThrown("person(3, 0)", x, 3, 0, 1);
        CHECKS.dueThrown("person(-1, 0)", x, -1, 0, 1);
        CHECKS.dueThrown("person(2147483647, 0)", x, Integer.MAX_VALUE, 0, 1);
        CHECKS.dueThrown("person(0, 6)", x, 0, 6, 2);
        CHECKS.dueThrown("person(0, -1)", x, 0, -1, 2);
        CHECKS.dueThrown("person(3, 6)", x, 3, 6, 1);
    }

    private static void questions() {
        AskedCourt x = Checks.court("fact f;fact g;ask p plain none g f;ask q double g f none;ask r back f none g;");
        int[][] due = {{0, -1, 1, 0}, {1, 1, 0, -1}, {2, 0, -1, 1}};
        for (int question = 0; question < 3; question++) {
            for (int what = 0; what < 4; what++) {
                CHECKS.due("question(" + question + ", " + what + ")", x.question(question, what), due[question][what]);
            }
        }
        CHECKS.due("question(3, 0)", x.question(3, 0), -2);
        CHECKS.due("question(-1, 0)", x.question(-1, 0), -2);
        CHECKS.due("question(0, 4)", x.question(0, 4), -2);
        CHECKS.due("question(0, -1)", x.question(0, -1), -2);
    }

    private static void canAsk() {
        AskedCourt x = Checks.court(BASE + "ask t plain f g none;nine 1;");
        CHECKS.due("who KNOWS what is supposed", x.can(0, 1, 0), 1);
        CHECKS.due("who doesn't", x.can(2, 1, 0), 0);
        CHECKS.due("double, one is not KNOWN", x.can(0, 1, 2), 0);
        CHECKS.due("also doesn't count but of double", x.can(0, 1, 4), 1);
        x.tell(0, 1);
        CHECKS.due("double, both are KNOWN", x.can(0, 1, 2), 1);
        CHECKS.due("nothing is supposed", x.can(2, 0, 3), 1);
        x.send(1, 1);
        CHECKS.due("another ROOM", x.can(0, 1, 0), 0);
        x.ask(0, 2, 3);
        CHECKS.due("nine are asked", x.can(0, 2, 3), 0);
        CHECKS.due("not by the other one", x.can(2, 0, 3), 1);
        CHECKS.due("alike", x.can(0, 0, 0), -1);
        CHECKS.due("no such one", x.can(3, 0, 0), -1);
        CHECKS.due("no such other one", x.can(0, -1, 0), -1);
        CHECKS.due("no such QUESTION", x.can(0, 1, 5), -1);
        CHECKS.due("nine 0", Checks.court(BASE + "nine 0;").can(0, 1, 0), 0);
        AskedCourt usual = Checks.court(BASE);
        for (int i = 0; i < 9; i++) {
            CHECKS.due("nine without", usual.ask(0, 1, 3), 0);
        }
        CHECKS.due("nine without: the tenth", usual.ask(0, 1, 3), -2);
    }

    private static long slipLaw(String e) {
        return Checks.court(BASE + "law slip " + e + ";").law(0, 1, 0);
    }

    private static void laws() {
        CHECKS.due("lips", slipLaw("lips"), 6);
        CHECKS.due("wit", slipLaw("wit"), 2);
        CHECKS.due("heard", slipLaw("heard"), 1);
        CHECKS.due("or, and", slipLaw("1 or 0 and 0"), 1);
        CHECKS.due("not binds less than =", slipLaw("not 1 = 2"), 1);
        CHECKS.due("not not 7", slipLaw("not not 7"), 1);
        CHECKS.due("what isn't 0 is as 1", slipLaw("5 and 7"), 1);
        CHECKS.due("* ahead of +", slipLaw("2+3*4"), 14);
        CHECKS.due("( )", slipLaw("(2+3)*4"), 20);
        CHECKS.due("- from the left", slipLaw("9-3-2"), 4);
        CHECKS.due("/ from the left", slipLaw("100/5/2"), 10);
        CHECKS.due("/ is cut towards 0", slipLaw("(0-7)/2"), -3);
        CHECKS.due("+ ahead of <", slipLaw("1+1<1+2"), 1);
        CHECKS.due("a comparison in ( )", slipLaw("(1<2)<2"), 1);
        CHECKS.due("<=", slipLaw("2<=2"), 1);
        CHECKS.due("<>", slipLaw("2<>2"), 0);
        CHECKS.due(">=", slipLaw("1>=2"), 0);
        CHECKS.due(">= of the same", slipLaw("2>=2"), 1);
        CHECKS.due("0 or 5", slipLaw("0 or 5"), 1);
        CHECKS.due("5 or 0", slipLaw("5 or 0"), 1);
        CHECKS.due("0 or 0", slipLaw("0 or 0"), 0);
        CHECKS.due("0 and 5", slipLaw("0 and 5"), 0);
        CHECKS.due("5 and 0", slipLaw("5 and 0"), 0);
        CHECKS.due("not 5", slipLaw("not 5"), 0);
        CHECKS.due("not 0", slipLaw("not 0"), 1);
        CHECKS.due("behind others", slipLaw("3 and not 5"), 0);
        CHECKS.due("behind others, of 0", slipLaw("3 and not (5-5)"), 1);
        CHECKS.due(">", slipLaw("2>2"), 0);
        CHECKS.due("=", slipLaw("2=2"), 1);
        AskedCourt x = Checks.court(BASE + "law hear wit*1000+kind*100+room*10+day;law slip lost;");
        x.send(2, 2);
        x.end();
        CHECKS.due("hear of who hears", x.law(1, 2, 3), 9321);
        CHECKS.due("slip: lost", x.law(0, 2, 3), 0);
        CHECKS.due("what 2", x.law(2, 2, 3), Long.MIN_VALUE);
        CHECKS.due("what -1", x.law(-1, 2, 3), Long.MIN_VALUE);
        CHECKS.due("no such PERSON", x.law(1, 3, 3), Long.MIN_VALUE);
        CHECKS.due("no such QUESTION", x.law(1, 2, 4), Long.MIN_VALUE);
        CHECKS.due("no such law", Checks.court(BASE).law(0, 0, 0), Long.MIN_VALUE);
    }

    private static void lawErrors() {
        long error = Long.MIN_VALUE;
        CHECKS.due("by 0", slipLaw("1/0"), error);
        CHECKS.due("both sides are worked out: or", slipLaw("1 or 1/0"), error);
        CHECKS.due("both sides are worked out: and", slipLaw("0 and 1/0"), error);
        CHECKS.due("not of an ERROR", slipLaw("not (1/0)"), error);
        CHECKS.due("10 to the 12", slipLaw("1000*1000*1000*1000"), 1000000000000L);
        CHECKS.due("above it", slipLaw("1000*1000*1000*1000+1"), error);
        CHECKS.due("above it, then less", slipLaw("1000*1000*1000*1000+1-1"), error);
        CHECKS.due("below it", slipLaw("0-1000*1000*1000*1000-1"), error);
        CHECKS.due("as far below 0", slipLaw("0-1000*1000*1000*1000"), -1000000000000L);
        CHECKS.due("far beyond a long", slipLaw("(1000*1000*1000*1000)*(1000*1000*1000*1000)"), error);
        CHECKS.due("a product that wraps to little", slipLaw("(4096*4096*4096)*(4096*4096*4096)"), error);
        CHECKS.due("below 0 times below 0", slipLaw("(0-1000*1000*1000)*(0-1000)"), 1000000000000L);
        CHECKS.due("below 0 times above, too far", slipLaw("(0-1000*1000*1000)*1001"), error);
        CHECKS.due("0 times 10 to the 12", slipLaw("0*(1000*1000*1000*1000)"), 0);
    }

    private static void hearing() {
        AskedCourt x = Checks.court(BASE);
        x.ask(0, 1, 1);
        CHECKS.due("back: WIT 2 doesn't hear, the asked one neither", x.person(1, 3), 2);
        CHECKS.due("back: WIT 9 hears", x.person(2, 3), 1);
        x = Checks.court("fact f;person a 0 0 0;person b 0 5 0;person c 0 4 0;person d 0 9 1;knows a f;ask q back f none none;");
        x.ask(0, 2, 0);
        CHECKS.due("back: WIT 5 hears", x.person(1, 3), 1);
        CHECKS.due("back: WIT 4 doesn't", x.person(2, 3), 0);
        CHECKS.due("another ROOM", x.person(3, 3), 0);
        x = Checks.court(BASE + "law hear wit = 9;");
        x.ask(0, 1, 0);
        CHECKS.due("the law of hear: not", x.person(1, 3) & 1, 0);
        CHECKS.due("the law of hear: yes", x.person(2, 3) & 1, 1);
        x = Checks.court(BASE + "law hear 1/(wit-2);");
        x.ask(0, 1, 0);
        CHECKS.due("hear with an ERROR: always", x.person(1, 3) & 1, 1);
        CHECKS.due("1/7 is 0", x.person(2, 3) & 1, 0);
        x = Checks.court(BASE + "law hear 0-1;");
        x.ask(0, 1, 1);
        CHECKS.due("what isn't 0, by back too", x.person(1, 3) & 1, 1);
        x = Checks.court(BASE + "knows a g;");
        CHECKS.due("nothing asked of it is KNOWN", x.ask(0, 1, 2), 0);
        CHECKS.due("both that are supposed", x.person(2, 3), 3);
    }

    private static void slipping() {
        AskedCourt x = Checks.court(BASE + "law slip 100;");
        CHECKS.due("let slip", x.ask(0, 1, 0), 1);
        CHECKS.due("all know: who asks", x.person(0, 3), 3);
        CHECKS.due("all know: others", x.person(2, 3), 3);
        CHECKS.due("the asked one LOST", x.person(1, 4), 1);
        CHECKS.due("nobody else LOST", x.count(7), 1);
        CHECKS.due("asked this DAY", x.person(0, 5), 1);
        CHECKS.due("let slip what all know", x.ask(0, 1, 0), 1);
        CHECKS.due("LOST twice", x.person(1, 4), 2);
        CHECKS.due("idle lets nothing slip", x.ask(1, 0, 3), 0);
        CHECKS.due("what isn't KNOWN", x.ask(0, 1, 2), 0);
        CHECKS.due("nothing is asked", x.ask(0, 1, 1), 0);
        CHECKS.due("can't", x.ask(2, 2, 0), -1);
        CHECKS.due("no such QUESTION", x.ask(0, 1, 4), -1);
        CHECKS.due("no such one", x.ask(-1, 1, 0), -1);
        x.send(1, 1);
        CHECKS.due("another ROOM", x.ask(0, 1, 0), -2);
        x = Checks.court("fact f;person a 0 0 0;person b 9 0 0;person c 0 0 0;knows a f;ask p plain f none f;law slip 100;");
        CHECKS.due("what it learns by the question itself", x.ask(0, 1, 0), 1);
        x = Checks.court("fact f;person a 0 0 0;person b 9 0 0;knows a f;ask p plain f none f;law slip heard*100;");
        CHECKS.due("heard counts what is learnt right then", x.ask(0, 1, 0), 1);
        x = Checks.court("fact f;person a 0 0 0;person b 9 0 0;knows b f;ask p plain none none f;law slip 5000;");
        CHECKS.due("above 100 is as 100", x.ask(0, 1, 0), 1);
        x = Checks.court("fact f;person a 0 0 0;person b 9 0 0;knows b f;ask p plain none none f;law slip 0-5;");
        CHECKS.due("below 0 is as 0", x.ask(0, 1, 0), 0);
    }

    /** The numbers from seed 0 on, modulo 100: 0, 38 + ..., worked out here once more. */
    private static void numbers() {
        for (int slip : new int[] {1, 30, 50, 77, 99}) {
            AskedCourt x = Checks.court("fact f;person a 0 0 0;person b 9 0 0;knows b f;ask p plain none none f;"
                    + "seed 777;nine 99;law slip " + slip + ";");
            long number = 777;
            for (int i = 0; i < 30; i++) {
                number = (number * 1103515245L + 12345L) % 2147483648L;
                CHECKS.due("slip " + slip + " number " + i, x.ask(0, 1, 0), slip > number / 65536 % 100 ? 1 : 0);
            }
        }
        AskedCourt x = Checks.court("fact f;person a 0 0 0;person b 5 0 0;knows b f;ask p plain none none f;ask n plain none none none;"
                + "nine 99;seed 5;law slip 50 * (lost < 9 and day = 0) + 100 * (day = 1);");
        long number = 5;
        for (int i = 0; i < 6; i++) {
            number = (number * 1103515245L + 12345L) % 2147483648L;
            CHECKS.due("no number is drawn without need " + i, x.ask(0, 1, 0), 50 > number / 65536 % 100 ? 1 : 0);
            CHECKS.due("nothing asked, no number " + i, x.ask(0, 1, 1), 0);
            x.end();
            CHECKS.due("100: no number " + i, x.ask(0, 1, 0), 1);
            x.undo();
            x.undo();
        }
        noNumberAtTheEdges("0");
        noNumberAtTheEdges("100");
        noNumberAtTheEdges("0-7");
        noNumberAtTheEdges("107");
        x = Checks.court("fact f;person a 0 0 0;person b 4 0 0;knows b f;ask p plain none none f;seed 9;nine 99;law slip 1/0;");
        number = 9;
        for (int i = 0; i < 20; i++) {
            number = (number * 1103515245L + 12345L) % 2147483648L;
            CHECKS.due("with an ERROR 10 times LIPS " + i, x.ask(0, 1, 0), 40 > number / 65536 % 100 ? 1 : 0);
        }
    }

    /** On each other DAY the law is at an edge: the numbers of the DAYS between go on as if it weren't. */
    private static void noNumberAtTheEdges(String edge) {
        AskedCourt x = Checks.court("fact f;person a 0 0 0;person b 5 0 0;knows b f;ask p plain none none f;seed 5;law slip (day/2*2=day)*50 + (day/2*2<>day)*("
                + edge + ");");
        long number = 5;
        for (int i = 0; i < 12; i++) {
            number = (number * 1103515245L + 12345L) % 2147483648L;
            CHECKS.due("50 between edges of " + edge, x.ask(0, 1, 0), 50 > number / 65536 % 100 ? 1 : 0);
            x.end();
            CHECKS.due("at the edge " + edge, x.ask(0, 1, 0), edge.startsWith("0") ? 0 : 1);
            x.end();
        }
    }

    private static void telling() {
        AskedCourt x = Checks.court(BASE);
        CHECKS.due("told", x.tell(2, 0), true);
        CHECKS.due("it is KNOWN", x.tell(2, 0), false);
        CHECKS.due("who knows it by the TEXT", x.tell(0, 0), false);
        CHECKS.due("KNOWN then", x.person(2, 3), 1);
        CHECKS.due("nobody else is told", x.count(6), 3);
        CHECKS.due("no such PERSON", x.tell(3, 0), false);
        CHECKS.due("no such FACT", x.tell(0, 3), false);
        CHECKS.due("FACT -1", x.tell(0, -1), false);
        CHECKS.due("FACT 32", x.tell(0, 32), false);
        CHECKS.due("what can be undone", x.count(11), 1);
    }

    private static void sending() {
        AskedCourt x = Checks.court(BASE);
        CHECKS.due("there already", x.send(0, 0), false);
        CHECKS.due("ROOM 3", x.send(0, 3), true);
        CHECKS.due("where it is", x.person(0, 2), 3);
        CHECKS.due("ROOM 4", x.send(0, 4), false);
        CHECKS.due("ROOM -1", x.send(0, -1), false);
        CHECKS.due("no such PERSON", x.send(3, 1), false);
        CHECKS.due("what can be undone", x.count(11), 1);
        CHECKS.due("the TALK is from the TEXT on", x.behind(0, 0), 1);
    }

    private static void days() {
        AskedCourt x = Checks.court(BASE + "nine 1;");
        x.ask(0, 1, 3);
        x.ask(1, 0, 3);
        CHECKS.due("DAY 1", x.end(), 1);
        CHECKS.due("asked this DAY", x.person(0, 5), 0);
        CHECKS.due("asked this DAY, another one", x.person(1, 5), 0);
        CHECKS.due("asked in all", x.count(8), 2);
        for (int day = 2; day <= 400; day++) {
            CHECKS.due("DAY " + day, x.end(), day);
        }
    }
}
