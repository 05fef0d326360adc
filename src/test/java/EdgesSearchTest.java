/** Promises 22 to 27, sentence by sentence: what lies at each edge that the document names, and right beyond it. */
public final class EdgesSearchTest {
    private static final Checks CHECKS = new Checks("EdgesSearchTest");
    private static final String FIVE = "person a 0 0 0;person b 0 0 0;person c 9 0 0;person d 9 0 0;person e 0 0 0;";
    /** e alone can ask d for g (qh), then a alone can ask c for h (qg); nobody hears. */
    private static final String TWO_STEPS = "fact f;fact g;fact h;fact k;" + FIVE + "knows e f;knows d g;knows c h;knows a k;"
            + "ask qa idle none none none;ask qb plain h none none;ask qc idle none none h;ask qd plain none none none;ask qe plain none none k;"
            + "ask qf back f none none;ask qg double g k h;ask qh plain f none g;law hear 0;";
    private static final String IDLE = "fact f;" + FIVE + "ask qa idle none none none;ask qb idle none none none;ask qc idle none none none;"
            + "ask qd idle none none none;ask qe idle none none none;ask qf idle none none none;ask qg idle none none none;ask qh idle none none none;";

    public static void main(String[] args) {
        promise22HowMany();
        promise22Nine();
        promise22Others();
        promise22TheFirst();
        promise22NoSuchOnes();
        promise23();
        promise24();
        promise24WhoCanAsk();
        promise25();
        promise25FewerThanN();
        promise25OfSeveralTheFirst();
        promise26();
        promise26None();
        promise26TwoForEachLost();
        promise26IfItCanBeAskedStill();
        promise27();
        nothingChanges();
        CHECKS.end();
    }

    /** "the fewest, at most n"; "how many QUESTIONS (0: it is KNOWN); -2: by none" */
    private static void promise22HowMany() {
        AskedCourt x = Checks.court(TWO_STEPS);
        CHECKS.due("22: KNOWN, n 1", x.way(0, 3, 0, 1), 0);
        CHECKS.due("22: KNOWN, n 2", x.way(0, 3, 0, 2), 0);
        CHECKS.due("22: KNOWN, whoever else isn't to learn it", x.way(0, 3, 30, 2), 0);
        CHECKS.due("22: one", x.way(0, 1, 0, 1), 1);
        CHECKS.due("22: the fewest", x.way(0, 1, 0, 2), 1);
        CHECKS.due("22: two, n 2", x.way(0, 2, 0, 2), 2);
        CHECKS.due("22: two, n 1", x.way(0, 2, 0, 1), -2);
        CHECKS.due("22: by none: LIPS 0", x.way(1, 3, 0, 2), -2);
        CHECKS.due("22: by none: nobody hears", x.way(0, 0, 0, 2), -2);
        x.tell(0, 1);
        CHECKS.due("22: one is enough then", x.way(0, 2, 0, 1), 1);
        x.send(0, 1);
        CHECKS.due("22: elsewhere", x.way(0, 2, 0, 2), -2);
        CHECKS.due("22: KNOWN elsewhere, too", x.way(0, 1, 0, 2), 0);
        x = Checks.court("fact f;fact g;fact h;person a 0 0 0;person b 9 0 0;knows b f;knows b g;knows b h;ask p plain none none f;ask q plain f none g;"
                + "ask r plain g none h;law hear 0;");
        CHECKS.due("22: three are too many", x.way(0, 2, 0, 2), -2);
        CHECKS.due("22: two aren't", x.way(0, 1, 0, 2), 2);
    }

    /** "(nine matters)" */
    private static void promise22Nine() {
        AskedCourt x = Checks.court(TWO_STEPS + "nine 1;");
        CHECKS.due("22: each asks one", x.way(0, 2, 0, 2), 2);
        x.ask(4, 1, 0);
        CHECKS.due("22: e has asked", x.way(0, 2, 0, 2), -2);
        x.end();
        CHECKS.due("22: another DAY", x.way(0, 2, 0, 2), 2);
        x.ask(0, 1, 0);
        CHECKS.due("22: a has asked", x.way(0, 2, 0, 2), -2);
        CHECKS.due("22: g needs e alone", x.way(0, 1, 0, 2), 1);
        x = Checks.court(TWO_STEPS + "nine 0;");
        CHECKS.due("22: nine 0", x.way(0, 1, 0, 2), -2);
        CHECKS.due("22: nine 0, KNOWN", x.way(0, 3, 0, 2), 0);
        String one = "fact f;fact g;person a 0 0 0;person b 9 0 0;knows b f;knows b g;ask p plain none none f;ask q plain f none g;law hear 0;";
        x = Checks.court(one + "nine 2;");
        CHECKS.due("22: both by a", x.way(0, 1, 0, 2), 2);
        x.ask(0, 1, 1);
        CHECKS.due("22: what can't be asked isn't counted", x.way(0, 1, 0, 2), 2);
        x = Checks.court(one + "nine 1;");
        CHECKS.due("22: both by a, who may ask one", x.way(0, 1, 0, 2), -2);
    }

    /** "no others of some PERSONS (bits) come to KNOW it who don't yet" */
    private static void promise22Others() {
        AskedCourt x = Checks.court(TWO_STEPS);
        CHECKS.due("22: b would come to know it", x.way(0, 1, 2, 2), -2);
        CHECKS.due("22: c would", x.way(0, 1, 4, 2), -2);
        CHECKS.due("22: e would", x.way(0, 1, 16, 2), -2);
        CHECKS.due("22: d knows it", x.way(0, 1, 8, 2), 1);
        x.send(1, 1);
        CHECKS.due("22: b is elsewhere", x.way(0, 1, 2, 2), 1);
        CHECKS.due("22: b, d", x.way(0, 1, 10, 2), 1);
        CHECKS.due("22: b, c, d", x.way(0, 1, 14, 2), -2);
        x.tell(2, 1);
        CHECKS.due("22: c knows it, too", x.way(0, 1, 14, 2), 1);
        CHECKS.due("22: all others but e: two steps", x.way(0, 2, 14, 2), -2);
        x.send(3, 0);
        CHECKS.due("22: d learns h", x.way(0, 2, 8, 2), -2);
        CHECKS.due("22: c knows h", x.way(0, 2, 4, 2), 2);
        AskedCourt back = Checks.court("fact f;person a 0 5 0;person b 0 4 0;person c 0 9 0;knows c f;ask p plain f none none;ask q back f none none;");
        CHECKS.due("22: by the first QUESTION b would hear it", back.step(0, 0, 2, 1, 0), 201);
        CHECKS.due("22: b may hear it", back.step(0, 0, 0, 1, 0), 200);
        CHECKS.due("22: b never alone", back.way(1, 0, 1, 2), -2);
        AskedCourt both = Checks.court("fact f;fact g;person a 0 5 0;person b 0 4 0;person c 0 9 0;knows c f;knows a g;ask p plain g none none;ask q double f g none;"
                + "law hear wit=5 or wit=9;");
        CHECKS.due("22: what others learn of another FACT doesn't matter", both.way(0, 0, 6, 2), 2);
    }

    /** "of several the first by who asks, whom, QUESTION, one behind another" */
    private static void promise22TheFirst() {
        AskedCourt x = Checks.court(TWO_STEPS);
        CHECKS.due("23: e asks d the QUESTION 7", x.step(0, 2, 0, 2, 0), 437);
        CHECKS.due("23: a asks c the QUESTION 6", x.step(0, 2, 0, 2, 1), 26);
        CHECKS.due("23: one of two", x.step(0, 1, 0, 2, 0), 437);
        x = Checks.court("fact f;" + FIVE + "knows c f;knows d f;ask p idle none none f;ask q plain none none f;ask r plain none none f;");
        CHECKS.due("23: the first who, whom, QUESTION", x.step(0, 0, 0, 2, 0), 21);
        CHECKS.due("23: the first who isn't who learns", x.step(4, 0, 0, 2, 0), 21);
        x.send(0, 1);
        CHECKS.due("23: b asks", x.step(4, 0, 0, 2, 0), 121);
        x.send(2, 1);
        CHECKS.due("23: b asks d", x.step(4, 0, 0, 2, 0), 131);
        x = Checks.court("fact f;fact g;person a 0 0 0;person b 9 0 0;person c 9 0 0;knows b f;knows c f;knows b g;knows c g;ask i idle none none none;"
                + "ask p plain none none f;ask q plain f none g;law hear 0;law slip 100*(lips=9)*((kind=0)*(heard=2));");
        CHECKS.due("23: b asks c at once", x.step(0, 1, 0, 2, 0), 122);
        x = Checks.court("fact f;fact g;fact h;person a 0 0 0;person b 9 0 0;person c 9 0 0;knows b f;knows c f;knows b g;knows c g;knows a h;"
                + "ask i idle none none none;ask p plain none none f;ask q double f h g;law hear 0;");
        CHECKS.due("23: the first of the first ones", x.step(0, 1, 0, 2, 0), 11);
        CHECKS.due("23: the first of those behind it", x.step(0, 1, 0, 2, 1), 12);
        x.send(1, 1);
        CHECKS.due("23: b is elsewhere", x.step(0, 1, 0, 2, 0), 21);
        CHECKS.due("23: b is elsewhere, behind it", x.step(0, 1, 0, 2, 1), 22);
        x = Checks.court("fact f;fact g;fact k;person a 9 0 0;person b 0 0 0;knows a f;knows a g;knows b k;ask i idle none none none;ask p plain none none f;"
                + "ask q double f k g;law hear 0;");
        CHECKS.due("23: b asks a, the first", x.step(1, 1, 0, 2, 0), 101);
        CHECKS.due("23: b asks a, the second", x.step(1, 1, 0, 2, 1), 102);
    }

    /** "NONE: no such ones, the PERSON among the others." */
    private static void promise22NoSuchOnes() {
        AskedCourt x = Checks.court(TWO_STEPS);
        for (int n = 1; n <= 2; n++) {
            for (int none : Checks.beyond(5)) {
                CHECKS.due("22: no such PERSON " + none, x.way(none, 0, 0, n), -1);
                CHECKS.due("23: no such PERSON " + none, x.step(none, 0, 0, n, 0), -1);
            }
            for (int none : Checks.beyond(4)) {
                CHECKS.due("22: no such FACT " + none, x.way(0, none, 0, n), -1);
                CHECKS.due("23: no such FACT " + none, x.step(0, none, 0, n, 0), -1);
            }
            for (int person = 0; person < 5; person++) {
                CHECKS.due("22: the PERSON among the others", x.way(person, 1, 1 << person, n), -1);
                CHECKS.due("22: the PERSON among all", x.way(person, 1, 31, n), -1);
                CHECKS.due("22: among them, KNOWN", x.way(person, 3, 31, n), -1);
                CHECKS.due("22: all others", x.way(person, 1, 31 - (1 << person), n), person == 3 ? 0 : -2);
                CHECKS.due("23: the PERSON among the others", x.step(person, 1, 1 << person, n, 0), -1);
            }
            for (int others : new int[] {-1, -2, 32, 33, 64, 1 << 30, Integer.MIN_VALUE, Integer.MAX_VALUE, Integer.MAX_VALUE - 1}) {
                CHECKS.due("22: no such others " + others, x.way(0, 1, others, n), -1);
                CHECKS.due("23: no such others " + others, x.step(0, 1, others, n, 0), -1);
            }
        }
        for (int n : new int[] {0, 3, 4, -1, -2, Integer.MIN_VALUE, Integer.MAX_VALUE}) {
            CHECKS.due("22: n " + n, x.way(0, 1, 0, n), -1);
            CHECKS.due("22: n " + n + ", KNOWN", x.way(0, 3, 0, n), -1);
            CHECKS.due("23: n " + n, x.step(0, 1, 0, n, 0), -1);
        }
    }

    /** "-2: there are no so many, by none; NONE likewise, k is below 0." */
    private static void promise23() {
        AskedCourt x = Checks.court(TWO_STEPS);
        CHECKS.due("23: the second of one", x.step(0, 1, 0, 2, 1), -2);
        CHECKS.due("23: the third of two", x.step(0, 2, 0, 2, 2), -2);
        CHECKS.due("23: the first of none", x.step(0, 3, 0, 2, 0), -2);
        CHECKS.due("23: the first, by none", x.step(0, 0, 0, 2, 0), -2);
        CHECKS.due("23: the first, by none of one", x.step(0, 2, 0, 1, 0), -2);
        CHECKS.due("23: by none", x.step(0, 0, 0, 2, 7), -2);
        CHECKS.due("23: very many", x.step(0, 2, 0, 2, Integer.MAX_VALUE), -2);
        for (int k : new int[] {-1, -2, Integer.MIN_VALUE}) {
            CHECKS.due("23: k " + k, x.step(0, 2, 0, 2, k), -1);
            CHECKS.due("23: k " + k + ", KNOWN", x.step(0, 3, 0, 2, k), -1);
            CHECKS.due("23: k " + k + ", by none", x.step(0, 0, 0, 2, k), -1);
        }
    }

    /** "would make that PERSON let slip something that anybody else in the ROOM didn't KNOW ahead of it, as it goes" */
    private static void promise24() {
        String text = "fact f;fact g;person a 0 0 0;person b 5 0 0;person c 0 0 0;person d 0 0 1;knows b f;ask p plain none none f;ask q idle none none f;"
                + "ask r plain none none g;ask s plain none none none;ask t back none none f;ask u double none none f;ask v plain g none f;ask w plain f none f;";
        AskedCourt x = Checks.court(text);
        CHECKS.due("24: p, t, u", x.care(1), 1 + 16 + 32);
        CHECKS.due("24: who KNOWS nothing (w: nobody else can ask it of c but b)", x.care(2), 0);
        x.tell(0, 0);
        CHECKS.due("24: c doesn't KNOW it; a can ask w", x.care(1), 1 + 16 + 32 + 128);
        x.tell(2, 0);
        CHECKS.due("24: all there KNOW it, who is elsewhere doesn't matter", x.care(1), 0);
        x.send(3, 0);
        CHECKS.due("24: d comes", x.care(1), 1 + 16 + 32 + 128);
        x.tell(3, 1);
        CHECKS.due("24: d can ask v", x.care(1), 1 + 16 + 32 + 64 + 128);
        x = Checks.court(text + "law slip 49;");
        CHECKS.due("24: 49", x.care(1), 0);
        x = Checks.court(text + "law slip 50;");
        CHECKS.due("24: 50", x.care(1), 49);
        x = Checks.court("fact f;person a 9 0 0;knows a f;ask p plain none none f;");
        CHECKS.due("24: alone", x.care(0), 0);
        x = Checks.court("fact f;person a 0 0 0;person b 9 4 0;knows a f;ask w plain f none f;ask k back f none f;");
        CHECKS.due("24: who asks KNOWS it, nobody else is there", x.care(1), 0);
        x = Checks.court("fact f;person a 0 0 0;person b 9 4 0;person c 0 0 0;knows a f;ask w plain f none f;ask k back f none f;");
        CHECKS.due("24: c didn't KNOW it ahead of the QUESTION; by back b doesn't hear it", x.care(1), 1);
        for (int none : Checks.beyond(3)) {
            CHECKS.due("24: no such PERSON " + none, x.care(none), -1);
        }
        StringBuilder asks = new StringBuilder("fact f;" + FIVE + "knows e f;");
        for (int i = 0; i < 8; i++) {
            asks.append("ask q").append((char) ('a' + i)).append(" plain none none f;");
        }
        CHECKS.due("24: all eight", Checks.court(asks + "law slip 50;").care(4), 255);
        CHECKS.due("24: no QUESTIONS", Checks.court("person a 0 0 0;person b 0 0 0;").care(0), 0);
    }

    /** "some other one in the ROOM who can ASK it of that PERSON now" */
    private static void promise24WhoCanAsk() {
        String text = "fact f;fact g;person a 0 0 0;person b 9 0 0;person c 0 0 0;knows b f;knows c g;ask p plain none none f;ask q plain g none f;nine 1;";
        AskedCourt x = Checks.court(text);
        CHECKS.due("24: a or c", x.care(1), 3);
        x.ask(0, 2, 0);
        CHECKS.due("24: a has asked: c", x.care(1), 3);
        x.ask(2, 0, 0);
        CHECKS.due("24: both have asked", x.care(1), 0);
        x.end();
        CHECKS.due("24: another DAY", x.care(1), 3);
        x.send(2, 1);
        CHECKS.due("24: a alone", x.care(1), 1);
        x.send(0, 1);
        CHECKS.due("24: nobody", x.care(1), 0);
        x = Checks.court(text.replace("nine 1", "nine 0"));
        CHECKS.due("24: nobody may ask", x.care(1), 0);
        x = Checks.court("fact f;fact g;person a 0 0 0;person b 9 0 0;person c 0 9 0;knows b f;knows c g;ask p plain none none f;ask q plain g none f;"
                + "law slip 100*(heard=1);");
        CHECKS.due("24: by q b hears g, and keeps f", x.care(1), 1);
        x = Checks.court("fact f;person a 0 0 2;person b 9 0 2;person c 0 0 0;knows b f;ask p plain none none f;");
        CHECKS.due("24: in ROOM 2", x.care(1), 1);
        x.tried(1, 0);
        CHECKS.due("24: in ROOM 2, though ROOM 0 was tried", x.care(1), 1);
        x.tell(0, 0);
        x.tried(1, 0);
        CHECKS.due("24: in ROOM 2 all KNOW it", x.care(1), 0);
        x = Checks.court("fact f;fact g;fact h;person a 0 0 0;person b 9 0 0;knows a f;knows b f;knows b h;ask p plain none none f;ask q plain none none g;ask r plain none none h;");
        CHECKS.due("24: of f, g, h the last one alone is news that b KNOWS", x.care(1), 4);
    }

    /** "what 0: FACTS in sum, 1, 2: the QUESTIONS (ten times whom and the QUESTION; -2: there are no so many)" */
    private static void promise25() {
        AskedCourt x = Checks.court(TWO_STEPS);
        CHECKS.due("25: e asks d for g: four learn it", x.best(4, 1, 0), 8);
        CHECKS.due("25: d, the QUESTION 7", x.best(4, 1, 1), 37);
        CHECKS.due("25: one has no second", x.best(4, 1, 2), -2);
        CHECKS.due("25: two tell no more", x.best(4, 2, 0), 8);
        CHECKS.due("25: two: the first that can be asked", x.best(4, 2, 1), 0);
        CHECKS.due("25: two: then d, the QUESTION 7", x.best(4, 2, 2), 37);
        CHECKS.due("25: b can tell nothing", x.best(1, 1, 0), 4);
        CHECKS.due("25: the first", x.best(1, 1, 1), 0);
        CHECKS.due("25: a asks b first", x.best(0, 1, 1), 10);
        for (int none : Checks.beyond(5)) {
            CHECKS.due("25: no such PERSON " + none, x.best(none, 1, 0), -1);
        }
        for (int n : new int[] {0, 3, -1, -2, Integer.MIN_VALUE, Integer.MAX_VALUE}) {
            for (int what = 0; what < 3; what++) {
                CHECKS.due("25: n " + n, x.best(4, n, what), -1);
            }
        }
        for (int none : Checks.beyond(3)) {
            CHECKS.due("25: no such what " + none, x.best(4, 1, none), -1);
            CHECKS.due("25: no such what " + none + " of two", x.best(4, 2, none), -1);
        }
    }

    /** "-3: fewer than n can be asked" */
    private static void promise25FewerThanN() {
        AskedCourt x = Checks.court(TWO_STEPS + "nine 2;");
        for (int what = 0; what < 3; what++) {
            CHECKS.due("25: two can be asked", x.best(4, 2, what) >= 0, true);
        }
        x.ask(4, 0, 0);
        for (int what = 0; what < 3; what++) {
            CHECKS.due("25: one is left, n 2", x.best(4, 2, what), -3);
        }
        CHECKS.due("25: one is left, n 1", x.best(4, 1, 1), 37);
        x.ask(4, 0, 0);
        CHECKS.due("25: none is left, FACTS", x.best(4, 1, 0), -3);
        CHECKS.due("25: none is left, QUESTION", x.best(4, 1, 1), -3);
        CHECKS.due("25: none is left, n 2", x.best(4, 2, 2), -3);
        x.end();
        CHECKS.due("25: another DAY", x.best(4, 2, 0), 8);
        x.send(4, 3);
        CHECKS.due("25: alone", x.best(4, 1, 0), -3);
        CHECKS.due("25: nine 0", Checks.court(TWO_STEPS + "nine 0;").best(4, 1, 0), -3);
        CHECKS.due("25: nine 1, n 2", Checks.court(TWO_STEPS + "nine 1;").best(4, 2, 0), -3);
        CHECKS.due("25: nine 1, n 1", Checks.court(TWO_STEPS + "nine 1;").best(4, 1, 0), 8);
        CHECKS.due("25: no QUESTIONS", Checks.court("person a 0 0 0;person b 0 0 0;").best(0, 1, 0), -3);
        CHECKS.due("25: nothing that one KNOWS to ask", Checks.court("fact f;person a 0 0 0;person b 0 0 0;ask p plain f none none;").best(0, 1, 0), -3);
        x = Checks.court("fact f;fact g;person a 0 0 0;person b 9 0 0;knows b f;knows b g;ask p plain none none f;ask q plain f none g;law hear 0;");
        CHECKS.due("25: the second can be asked by the first alone", x.best(0, 2, 0), 4);
        CHECKS.due("25: p", x.best(0, 2, 1), 10);
        CHECKS.due("25: then q", x.best(0, 2, 2), 11);
    }

    private static void promise25OfSeveralTheFirst() {
        AskedCourt x = Checks.court("fact f;fact g;" + FIVE + "knows c f;knows d f;knows d g;ask p plain none none f;ask q plain none none f;ask r plain none none g;");
        CHECKS.due("25: four learn g of d, three would f of c", x.best(0, 1, 1), 32);
        CHECKS.due("25: FACTS in sum", x.best(0, 1, 0), 7);
        CHECKS.due("25: most first of d: g", x.best(0, 2, 0), 10);
        CHECKS.due("25: the first of c, ...", x.best(0, 2, 1), 20);
        CHECKS.due("25: ... then g of d", x.best(0, 2, 2), 32);
        CHECKS.due("25: e asks as a does", x.best(4, 2, 1) * 100 + x.best(4, 2, 2), 2032);
        x.send(2, 1);
        CHECKS.due("25: c is elsewhere: f tells as much as g", x.best(0, 1, 1), 30);
        x.tell(0, 0);
        CHECKS.due("25: f is KNOWN to a: g tells more", x.best(0, 1, 1), 32);
        x = Checks.court("fact f;fact g;" + FIVE + "knows c f;knows d f;knows c g;knows d g;ask p plain none none f;ask q plain none none f;ask r plain none none g;");
        CHECKS.due("25: f or g of c or d: the first of c", x.best(0, 1, 1), 20);
        CHECKS.due("25: four KNOWN and three more", x.best(0, 1, 0), 7);
        CHECKS.due("25: f, then g", x.best(0, 2, 1) * 100 + x.best(0, 2, 2), 2022);
        x = Checks.court("fact f;fact g;person a 9 0 0;person b 0 0 0;person c 9 0 0;knows a g;knows c f;ask p plain none none f;ask q plain f none g;law hear 0;");
        CHECKS.due("25: b asks c, then a", x.best(1, 2, 1) * 100 + x.best(1, 2, 2), 2001);
        CHECKS.due("25: all of it is KNOWN", x.best(1, 2, 0), 6);
        x = Checks.court("fact f;fact g;person a 0 0 0;person b 0 0 0;knows a f;knows a g;ask p plain f none none;ask q plain g none none;");
        CHECKS.due("25: the asked one hears what both suppose", x.best(0, 2, 0), 4);
        CHECKS.due("25: p, then q", x.best(0, 2, 1) * 100 + x.best(0, 2, 2), 1011);
        x = Checks.court("fact f;fact g;person a 0 0 0;person b 0 0 0;knows b f;knows b g;ask p plain f none none;ask q plain g none none;");
        CHECKS.due("25: b asks: a hears what both suppose", x.best(1, 2, 0), 4);
        x = Checks.court("fact f;fact g;person a 9 0 0;person b 9 0 0;person c 9 0 1;knows a f;knows c g;ask p plain none none f;ask q plain none none g;law hear 0;");
        CHECKS.due("25: by the first QUESTION of c g", Checks.court("fact f;fact g;person a 0 0 0;person b 9 0 0;person c 9 0 0;knows c g;knows c f;ask n idle none none none;"
                + "ask p plain g none f;ask q plain none none g;law hear 0;").best(0, 2, 1), 22);
        CHECKS.due("25: neither oneself is asked nor who is elsewhere", x.best(0, 2, 0), 2);
        CHECKS.due("25: nor by one", x.best(0, 1, 0), 2);
    }

    /** "How many RESTS a DUEL has; NONE: no such ones, alike, not in one ROOM." */
    private static void promise26() {
        AskedCourt x = Checks.court(IDLE);
        CHECKS.due("26: all are alike: nine times nine", x.rests(0, 1), 81);
        CHECKS.due("26: of the last ones", x.rests(4, 3), 81);
        for (int none : Checks.beyond(5)) {
            CHECKS.due("26: no such one " + none, x.rests(none, 0), -1);
            CHECKS.due("26: no such other one " + none, x.rests(0, none), -1);
            CHECKS.due("27: no such one " + none, x.rest(none, 0, 0), -1);
            CHECKS.due("27: no such other one " + none, x.rest(0, none, 0), -1);
        }
        for (int person = 0; person < 5; person++) {
            CHECKS.due("26: alike", x.rests(person, person), -1);
            CHECKS.due("27: alike", x.rest(person, person, 0), -1);
        }
        x.send(1, 2);
        CHECKS.due("26: not in one ROOM", x.rests(0, 1), -1);
        CHECKS.due("26: nor the other way", x.rests(1, 0), -1);
        CHECKS.due("27: not in one ROOM", x.rest(0, 1, 0), -1);
        x.send(0, 2);
        CHECKS.due("26: in another ROOM, both", x.rests(0, 1), 81);
    }

    /** "(or none: the last one of all)" */
    private static void promise26None() {
        AskedCourt x = Checks.court("person a 9 9 0;person b 9 9 0;");
        CHECKS.due("26: none and none alone", x.rests(0, 1), 1);
        CHECKS.due("27: none of none", x.rest(0, 1, 0), 0);
        CHECKS.due("27: no second", x.rest(0, 1, 1), -2);
        x = Checks.court("fact f;fact g;person a 9 0 0;person b 9 0 0;knows a f;knows a g;ask p plain f none none;ask q plain f none g;");
        // by p or q b learns f, and makes a let g slip then: a had better ask none
        CHECKS.due("26: none is better than any", x.rests(0, 1), 3);
        for (int k = 0; k < 3; k++) {
            CHECKS.due("27: none, and what can't be asked then", x.rest(0, 1, k), 200 + k);
        }
        x = Checks.court("fact f;person a 9 9 0;person b 9 9 0;knows a f;ask p plain f none none;ask q plain none none f;");
        // by p b would learn f: b's gain, not a's; by q b makes a let it slip, behind p it is no gain to b
        int[] due = {0, 1, 2, 101, 201};
        CHECKS.due("26: RESTS", x.rests(0, 1), due.length);
        for (int k = 0; k < due.length; k++) {
            CHECKS.due("27: REST " + k, x.rest(0, 1, k), due[k]);
        }
    }

    /** "each has how many FACTS one KNOWS more, less 2 for each time one LOST" */
    private static void promise26TwoForEachLost() {
        // a's p supposes f and gets x; then b can ask q, which tells a g and gets y of a: two more less two is as none
        AskedCourt x = Checks.court("fact f;fact g;fact x;fact y;person a 9 0 0;person b 9 0 0;knows a f;knows a y;knows b g;knows b x;"
                + "ask p plain f none x;ask q double f g y;");
        int[] due = {1, 100, 101, 200, 201};
        CHECKS.due("26: two more less 2 is no more and no less", x.rests(0, 1), due.length);
        for (int k = 0; k < due.length; k++) {
            CHECKS.due("27: REST " + k, x.rest(0, 1, k), due[k]);
        }
        CHECKS.due("27: no more of them", x.rest(0, 1, due.length), -2);
        AskedCourt y = Checks.court("fact f;fact g;fact x;fact y;person c 0 0 3;person b 9 0 1;person a 9 0 1;knows a f;knows a y;knows b g;knows b x;"
                + "ask p plain f none x;ask q double f g y;");
        CHECKS.due("26: of the last ones, in ROOM 1", y.rests(2, 1), due.length);
        for (int k = 0; k < due.length; k++) {
            CHECKS.due("27: REST " + k + " of the last ones", y.rest(2, 1, k), due[k]);
        }
        // b first: a alone can ask, p, and b LOSES whatever b does
        int[] bFirst = {0, 100, 200};
        CHECKS.due("26: b first", y.rests(1, 2), bFirst.length);
        for (int k = 0; k < bFirst.length; k++) {
            CHECKS.due("27: REST " + k + ", b first", y.rest(1, 2, k), bFirst[k]);
        }
        x.ask(0, 1, 0);
        x.ask(1, 0, 1);
        CHECKS.due("26: what one KNEW and LOST ahead of it doesn't count", x.person(0, 4) + x.person(1, 4) >= 1, true);
        CHECKS.due("26: who LOST ahead of it has RESTS, too", x.rests(0, 1) > 0, true);
    }

    /** "the first one's, then the second one's if it can be asked still" */
    private static void promise26IfItCanBeAskedStill() {
        String text = "fact f;person a 0 0 0;person b 9 0 0;knows b f;ask p plain none none f;";
        AskedCourt x = Checks.court(text);
        CHECKS.due("26: a had better ask p; b's p gets nothing", x.rests(0, 1), 2);
        CHECKS.due("27: p and p", x.rest(0, 1, 0), 0);
        CHECKS.due("27: p and none", x.rest(0, 1, 1), 1);
        CHECKS.due("27: b first: p and p", x.rest(1, 0, 0), 0);
        CHECKS.due("27: b first: none and p", x.rest(1, 0, 1), 100);
        x = Checks.court(text + "nine 0;");
        CHECKS.due("26: what can't be asked is as none", x.rests(0, 1), 4);
        x = Checks.court(text + "nine 1;");
        x.ask(1, 0, 0);
        CHECKS.due("26: b has asked", x.rests(0, 1), 2);
        x.undo();
        x.send(1, 1);
        x.send(1, 0);
        CHECKS.due("26: undone", x.rests(0, 1), 2);
        x = Checks.court("fact f;fact g;person a 0 0 0;person b 0 0 0;person c 9 0 0;knows a f;knows c g;ask p plain f none none;ask q plain f none g;");
        CHECKS.due("26: others let nothing slip, they aren't asked", x.rests(0, 1), 9);
    }

    /** "a hundred times the first one's QUESTION and the second one's (how many there are: none); -2: there are no so many; NONE likewise, k is below 0." */
    private static void promise27() {
        AskedCourt x = Checks.court(IDLE);
        for (int k = 0; k < 81; k++) {
            CHECKS.due("27: by the first one's, then the second one's", x.rest(0, 1, k), k / 9 * 100 + k % 9);
        }
        for (int k : new int[] {81, 82, 100, 808, Integer.MAX_VALUE}) {
            CHECKS.due("27: there are no so many: " + k, x.rest(0, 1, k), -2);
        }
        for (int k : new int[] {-1, -2, -81, Integer.MIN_VALUE}) {
            CHECKS.due("27: k " + k, x.rest(0, 1, k), -1);
        }
        CHECKS.due("27: alike, k below 0", x.rest(0, 0, -1), -1);
        x.send(0, 1);
        CHECKS.due("27: not in one ROOM, k beyond", x.rest(0, 1, 81), -1);
    }

    private static void nothingChanges() {
        AskedCourt x = Checks.court("fact f;fact g;person a 5 1 0;person b 5 2 0;person c 9 4 0;knows b f;knows c g;knows a g;ask p plain none none f;"
                + "ask q plain g none f;talk a b p;seed 9;");
        String before = Checks.told(x);
        x.way(0, 0, 0, 2);
        x.step(0, 0, 0, 2, 0);
        x.care(1);
        x.best(0, 2, 0);
        x.best(0, 1, 1);
        x.rests(0, 1);
        x.rest(1, 0, 0);
        CHECKS.dueSame("22 to 27: nothing changes", Checks.told(x), before);
        CHECKS.due("22 to 27: no number is gone", x.ask(0, 1, 0), 50 > (9L * 1103515245L + 12345L) % 2147483648L / 65536 % 100 ? 1 : 0);
    }
}
