/** Promises 6 to 13, sentence by sentence: what lies at each edge that the document names, and right beyond it. */
public final class EdgesAskingTest {
    private static final Checks CHECKS = new Checks("EdgesAskingTest");
    private static final long ERROR = Long.MIN_VALUE;
    private static final String BASE = "fact f;fact g;fact h;person a 0 5 0;person b 6 2 0;person c 3 9 0;"
            + "knows a f;knows b g;ask p plain f none g;ask q back f none none;ask r double f g h;ask s idle none none f;";
    private static final String FULL = "fact fa;fact fb;fact fc;fact fd;fact fe;fact ff;fact fg;fact fh;person a 0 1 2;person b 1 2 3;"
            + "person c 2 3 0;person d 3 4 1;person e 9 9 3;knows e fh;ask qa plain fa none none;ask qb plain fa none none;"
            + "ask qc plain fa none none;ask qd plain fa none none;ask qe plain fa none none;ask qf plain fa none none;"
            + "ask qg plain fa none none;ask qh idle fh fg fe;";

    public static void main(String[] args) {
        promise6();
        promise7();
        promise8();
        promise8Nine();
        promise9NoSuchOnes();
        promise9Values();
        promise9Errors();
        promise9Names();
        promise10Answers();
        promise10CantBeAsked();
        promise10WhoHears();
        promise10WhatIsKnown();
        promise10WhoKnowsThen();
        promise10AboveANumber();
        promise10NoNumber();
        promise10BeyondTheEdges();
        promise11();
        promise12();
        promise13();
        promise13BehindTheLast();
        CHECKS.end();
    }

    /** "IndexOutOfBoundsException: no such PERSON. NoSuchElementException: no such what." */
    private static void promise6() {
        AskedCourt x = Checks.court(FULL);
        int[][] due = {{0, 1, 2, 0, 0, 0}, {1, 2, 3, 0, 0, 0}, {2, 3, 0, 0, 0, 0}, {3, 4, 1, 0, 0, 0}, {9, 9, 3, 128, 0, 0}};
        for (int person = 0; person < 5; person++) {
            for (int what = 0; what < 6; what++) {
                CHECKS.due("6: person(" + person + ", " + what + ")", x.person(person, what), due[person][what]);
            }
        }
        for (int none : Checks.beyond(5)) {
            CHECKS.dueThrown("6: no such PERSON " + none, x, none, 0, 1);
            CHECKS.dueThrown("6: no such PERSON " + none + ", whatever is asked of it", x, none, 6, 1);
        }
        for (int none : Checks.beyond(6)) {
            CHECKS.dueThrown("6: no such what " + none, x, 0, none, 2);
            CHECKS.dueThrown("6: no such what " + none + " of the last one", x, 4, none, 2);
        }
        x = Checks.court(BASE + "law slip 100;");
        x.tell(2, 0);
        x.tell(2, 2);
        x.send(2, 3);
        x.send(2, 0);
        x.ask(0, 1, 0);
        x.ask(0, 1, 0);
        CHECKS.due("6: FACTS KNOWN now", x.person(2, 3), 7);
        CHECKS.due("6: the ROOM now", x.person(2, 2), 0);
        CHECKS.due("6: how often it LOST", x.person(1, 4), 2);
        CHECKS.due("6: who asks doesn't LOSE", x.person(0, 4), 0);
        CHECKS.due("6: asked this DAY", x.person(0, 5), 2);
        CHECKS.due("6: who is asked asks nothing", x.person(1, 5), 0);
        x.end();
        CHECKS.due("6: how often it LOST stays", x.person(1, 4), 2);
        CHECKS.due("6: asked on another DAY", x.person(0, 5), 0);
    }

    /** "-1: none ... -2: no such ones." */
    private static void promise7() {
        AskedCourt x = Checks.court(FULL);
        int[] first = {0, 0, -1, -1};
        int[] last = {3, 7, 6, 4};
        for (int what = 0; what < 4; what++) {
            CHECKS.due("7: the first QUESTION, what " + what, x.question(0, what), first[what]);
            CHECKS.due("7: the last QUESTION, what " + what, x.question(7, what), last[what]);
            for (int none : Checks.beyond(8)) {
                CHECKS.due("7: no such QUESTION " + none, x.question(none, what), -2);
            }
        }
        for (int none : Checks.beyond(4)) {
            CHECKS.due("7: no such what " + none, x.question(0, none), -2);
        }
        x = Checks.court("fact f;ask a plain none none none;ask b double none none none;ask c back none none none;ask d idle none none none;");
        for (int kind = 0; kind < 4; kind++) {
            CHECKS.due("7: KIND", x.question(kind, 0), kind);
            for (int what = 1; what < 4; what++) {
                CHECKS.due("7: none", x.question(kind, what), -1);
            }
        }
    }

    /** "Whether one can ASK another one a QUESTION now (1, 0); NONE: no such ones, alike." */
    private static void promise8() {
        AskedCourt x = Checks.court("fact f;fact g;person a 0 0 0;person b 0 0 0;person c 0 0 1;ask n plain none none f;ask p plain f none none;"
                + "ask d double f g none;ask e double none g none;ask i idle f g none;ask k back g f none;");
        int[] nothing = {1, 0, 0, 0, 0, 0};
        int[] f = {1, 1, 0, 0, 1, 0};
        int[] both = {1, 1, 1, 1, 1, 1};
        int[] g = {1, 0, 0, 1, 0, 1};
        for (int q = 0; q < 6; q++) {
            CHECKS.due("8: who KNOWS nothing, QUESTION " + q, x.can(0, 1, q), nothing[q]);
        }
        x.tell(0, 0);
        for (int q = 0; q < 6; q++) {
            CHECKS.due("8: who KNOWS f, QUESTION " + q, x.can(0, 1, q), f[q]);
            CHECKS.due("8: the asked one's FACTS don't matter, QUESTION " + q, x.can(1, 0, q), nothing[q]);
        }
        x.tell(0, 1);
        x.tell(1, 1);
        for (int q = 0; q < 6; q++) {
            CHECKS.due("8: who KNOWS both, QUESTION " + q, x.can(0, 1, q), both[q]);
            CHECKS.due("8: who KNOWS g, QUESTION " + q, x.can(1, 0, q), g[q]);
            CHECKS.due("8: another ROOM, QUESTION " + q, x.can(0, 2, q), 0);
            CHECKS.due("8: from another ROOM, QUESTION " + q, x.can(2, 0, q), 0);
            CHECKS.due("8: alike", x.can(0, 0, q), -1);
        }
        x.send(2, 0);
        CHECKS.due("8: sent there", x.can(0, 2, 0), 1);
        for (int none : Checks.beyond(3)) {
            CHECKS.due("8: no such one " + none, x.can(none, 0, 0), -1);
            CHECKS.due("8: no such other one " + none, x.can(0, none, 0), -1);
            CHECKS.due("8: alike, and no such one " + none, x.can(none, none, 0), -1);
        }
        for (int none : Checks.beyond(6)) {
            CHECKS.due("8: no such QUESTION " + none, x.can(0, 1, none), -1);
        }
    }

    /** "and that one asked fewer than nine this DAY" */
    private static void promise8Nine() {
        for (int nine : new int[] {0, 1, 2, 9, 98, 99}) {
            AskedCourt x = Checks.court("person a 0 0 0;person b 0 0 0;ask n plain none none none;nine " + nine + ";");
            for (int i = 0; i < nine; i++) {
                CHECKS.due("8: fewer than " + nine + " are asked", x.can(0, 1, 0), 1);
                CHECKS.due("8: so it can be asked", x.ask(0, 1, 0), 0);
            }
            CHECKS.due("8: " + nine + " are asked", x.can(0, 1, 0), 0);
            CHECKS.due("8: no more", x.ask(0, 1, 0), -2);
            CHECKS.due("8: that it is asked doesn't count", x.can(1, 0, 0), nine == 0 ? 0 : 1);
            x.end();
            CHECKS.due("8: another DAY", x.can(0, 1, 0), nine == 0 ? 0 : 1);
            CHECKS.due("8: back on that DAY", x.undo(), Math.min(nine, 19));
            CHECKS.due("8: they are asked there", x.can(0, 1, 0), 0);
        }
    }

    /** "Long.MIN_VALUE: an ERROR, no such law, no such ones." */
    private static void promise9NoSuchOnes() {
        AskedCourt x = Checks.court(BASE + "law slip 7;");
        CHECKS.due("9: the law of slip", x.law(0, 0, 0), 7);
        CHECKS.due("9: of the last ones", x.law(0, 2, 3), 7);
        CHECKS.due("9: no law of hear", x.law(1, 0, 0), ERROR);
        for (int none : Checks.beyond(2)) {
            CHECKS.due("9: no such law " + none, x.law(none, 0, 0), ERROR);
        }
        for (int none : Checks.beyond(3)) {
            CHECKS.due("9: no such PERSON " + none, x.law(0, none, 0), ERROR);
        }
        for (int none : Checks.beyond(4)) {
            CHECKS.due("9: no such QUESTION " + none, x.law(0, 0, none), ERROR);
        }
        x = Checks.court(BASE + "law slip 7;law hear 8;");
        CHECKS.due("9: both laws", x.law(0, 0, 0) * 10 + x.law(1, 0, 0), 78);
        for (int none : Checks.beyond(2)) {
            CHECKS.due("9: no such law " + none + " but both", x.law(none, 0, 0), ERROR);
        }
        x = Checks.court(BASE + "law hear 0;");
        CHECKS.due("9: no law of slip", x.law(0, 0, 0), ERROR);
        CHECKS.due("9: the law of hear", x.law(1, 0, 0), 0);
        CHECKS.due("9: no laws", Checks.court(BASE).law(0, 0, 0), ERROR);
        CHECKS.due("9: no QUESTIONS", Checks.court("person a 0 0 0;law slip 1;").law(0, 0, 0), ERROR);
        CHECKS.due("9: no PERSONS", Checks.court("ask p idle none none none;law slip 1;").law(0, 0, 0), ERROR);
    }

    private static void dueValue(String e, long value) {
        CHECKS.due("9: slip " + e, Checks.court(BASE + "law slip " + e + ";").law(0, 1, 0), value);
        CHECKS.due("9: hear " + e, Checks.court(BASE + "law hear " + e + ";").law(1, 1, 0), value);
    }

    /** "comparisons, and, or, not are 1 or 0 (what isn't 0 is as 1 ...), / is cut towards 0" */
    private static void promise9Values() {
        String[] signs = {"<", "<=", "=", "<>", ">=", ">"};
        int[] less = {1, 1, 0, 1, 0, 0};
        int[] alike = {0, 1, 1, 0, 1, 0};
        int[] more = {0, 0, 0, 1, 1, 1};
        for (int i = 0; i < 6; i++) {
            dueValue("7" + signs[i] + "8", less[i]);
            dueValue("8" + signs[i] + "8", alike[i]);
            dueValue("9" + signs[i] + "8", more[i]);
            dueValue("0-9" + signs[i] + "0-8", less[i]);
        }
        dueValue("0-9 and 7", 1);
        dueValue("0-9 or 0", 1);
        dueValue("0 or 0-9", 1);
        dueValue("0 and 7 or 0", 0);
        dueValue("1 or 1 and 0", 1);
        dueValue("(1 or 1) and 0", 0);
        dueValue("not 0", 1);
        dueValue("not 7", 0);
        dueValue("not (0-7)", 0);
        dueValue("not not 7", 1);
        dueValue("not 0 and 0", 0);
        dueValue("not (0 and 0)", 1);
        dueValue("not 3 = 4", 1);
        dueValue("not 0 + 1", 0);
        dueValue("7/2", 3);
        dueValue("(0-7)/2", -3);
        dueValue("7/(0-2)", -3);
        dueValue("(0-7)/(0-2)", 3);
        dueValue("1/2", 0);
        dueValue("(0-1)/2", 0);
        dueValue("0/7", 0);
        dueValue("100/7/2", 7);
        dueValue("100/(7/2)", 33);
        dueValue("100/7*2", 28);
        dueValue("2*100/7", 28);
        dueValue("9-5-3", 1);
        dueValue("9-(5-3)", 7);
        dueValue("9-5+3", 7);
        dueValue("2+3*4", 14);
        dueValue("9999", 9999);
        dueValue("0-9999", -9999);
        dueValue("((((((((5))))))))", 5);
        dueValue("5000", 5000);
        dueValue("not ".repeat(62) + "7", 1);
        dueValue("not ".repeat(63) + "7", 0);
        dueValue("((((((((" + "not ".repeat(63) + "7))))))))", 0);
        dueValue("not (".repeat(8) + "not ".repeat(55) + "0" + ")".repeat(8), 1);
        dueValue("1+(2*(1+(2*(1+(2*(1+(2*(3+4))))))))", 127);
        dueValue("0-5", -5);
    }

    /** "ERROR: / by 0, a value above 10 to the 12 or below 0 by more than that"; "both sides are worked out" */
    private static void promise9Errors() {
        String edge = "1000*1000*1000*1000";
        long most = 1000000000000L;
        dueValue(edge, most);
        dueValue("0-" + edge, -most);
        dueValue(edge + "-1", most - 1);
        dueValue(edge + "+1", ERROR);
        dueValue("0-" + edge + "-1", ERROR);
        dueValue("0-" + edge + "+1", 1 - most);
        dueValue("1-" + edge + "*1", 1 - most);
        dueValue(edge + "+1-1", ERROR);
        dueValue(edge + "*2/2", ERROR);
        dueValue(edge + "*(0-1)", -most);
        dueValue(edge + "*(0-1)*(0-1)", most);
        dueValue(edge + "*(0-2)", ERROR);
        dueValue("(0-2)*(" + edge + ")", ERROR);
        dueValue("(0-1)*(0-" + edge + ")", most);
        dueValue("(0-" + edge + ")*0", 0);
        dueValue("0*(" + edge + ")", 0);
        dueValue("(" + edge + ")/(0-1)", -most);
        dueValue("(1000*1000*1000-1)*1001", ERROR);
        dueValue("(1000*1000*1000-1000*1000)*1001", 999999000000L);
        dueValue("9999*9999*9999", 999700029999L);
        dueValue("9999*9999*9999+9999*9999*3", 999700029999L + 299940003L);
        dueValue("9999*9999*9999+9999*9999*4", ERROR);
        dueValue("(4096*4096*4096)*(4096*4096*4096)", ERROR);
        dueValue("(" + edge + ")*(" + edge + ")", ERROR);
        dueValue("(0-" + edge + ")*(" + edge + ")", ERROR);
        dueValue("(0-4096*4096*4096)*(4096*4096*4096)", ERROR);
        dueValue("(4096*4096*4096)*(0-4096*4096*4096)", ERROR);
        dueValue("(0-4096*4096*4096)*(0-4096*4096*4096)", ERROR);
        dueValue("(" + edge + "+1) and 0", ERROR);
        dueValue("(" + edge + "+1) > 0", ERROR);
        dueValue("1/0", ERROR);
        dueValue("0/0", ERROR);
        dueValue("(0-5)/(3-3)", ERROR);
        dueValue("1 or 1/0", ERROR);
        dueValue("1/0 or 1", ERROR);
        dueValue("0 and 1/0", ERROR);
        dueValue("1/0 and 0", ERROR);
        dueValue("not 1/0", ERROR);
        dueValue("0*(1/0)", ERROR);
        dueValue("1/0 = 1/0", ERROR);
        dueValue("(1/0) - (1/0)", ERROR);
        dueValue("0/1", 0);
    }

    /** "lips, wit ... lost ... heard ... room ... kind ... day" */
    private static void promise9Names() {
        AskedCourt x = Checks.court("fact f;fact g;fact h;person a 1 2 3;person b 9 0 3;knows b f;ask p plain none none f;ask q double none none f;"
                + "ask r back none none f;ask s idle none none f;law slip lips*1000*1000+wit*100*1000+lost*10*1000+heard*1000+room*100+kind*10+day;"
                + "law hear day+kind*10+room*100+heard*1000+wit;");
        CHECKS.due("9: of a", x.law(0, 0, 0), 1200300);
        CHECKS.due("9: of b", x.law(0, 1, 3), 9001330);
        CHECKS.due("9: of who hears", x.law(1, 1, 2), 1320);
        x.send(1, 0);
        x.tell(1, 2);
        x.end();
        x.end();
        CHECKS.due("9: now", x.law(0, 1, 1), 9002012);
        x.send(0, 0);
        CHECKS.due("9: b lets slip (above 100)", x.ask(0, 1, 0), 1);
        CHECKS.due("9: b LOST, a KNOWS one", x.law(0, 1, 0), 9012002);
        CHECKS.due("9: a KNOWS one", x.law(0, 0, 0), 1201002);
        CHECKS.due("9: hear of a: WIT 2", x.law(1, 0, 3), 1034);
        String[] names = {"lips", "wit", "lost", "heard", "room", "kind", "day"};
        long[] first = {6, 2, 0, 1, 0, 1, 0};
        for (int i = 0; i < names.length; i++) {
            CHECKS.due("9: " + names[i], Checks.court(BASE + "law slip " + names[i] + ";").law(0, 1, 2), first[i]);
            CHECKS.due("9: hear by " + names[i], Checks.court(BASE + "law hear " + names[i] + ";").law(1, 1, 2), first[i]);
        }
    }

    /** "1 something is LET SLIP, 0 not; -2: it can't be asked; NONE: no such ones, alike." */
    private static void promise10Answers() {
        AskedCourt x = Checks.court(BASE + "law slip 100;");
        String before = Checks.told(x);
        for (int none : Checks.beyond(3)) {
            CHECKS.due("10: no such one " + none, x.ask(none, 0, 0), -1);
            CHECKS.due("10: no such other one " + none, x.ask(0, none, 0), -1);
        }
        for (int none : Checks.beyond(4)) {
            CHECKS.due("10: no such QUESTION " + none, x.ask(0, 1, none), -1);
        }
        CHECKS.due("10: alike", x.ask(0, 0, 0), -1);
        CHECKS.due("10: alike, and it can't be asked", x.ask(2, 2, 2), -1);
        CHECKS.dueSame("10: nothing is asked by these", Checks.told(x), before);
        CHECKS.due("10: let slip", x.ask(0, 1, 0), 1);
        CHECKS.due("10: nothing is asked for", x.ask(0, 1, 1), 0);
        CHECKS.due("10: idle", x.ask(1, 0, 3), 0);
        CHECKS.due("10: the asked one doesn't KNOW it", x.ask(0, 1, 2), 0);
        CHECKS.due("10: LET SLIP though all KNOW it", x.ask(0, 1, 0), 1);
        CHECKS.due("10: LOST once more", x.person(1, 4), 2);
        CHECKS.due("10: asked in all", x.count(8), 5);
        CHECKS.due("10: asked by a", x.person(0, 5), 4);
        CHECKS.due("10: asked by b", x.person(1, 5), 1);
    }

    private static void promise10CantBeAsked() {
        AskedCourt x = Checks.court("fact f;fact g;person a 5 0 0;person b 5 0 0;person c 5 0 1;knows b f;ask p plain none none f;ask q plain g none f;"
                + "nine 1;seed 4321;");
        AskedCourt same = Checks.court("fact f;fact g;person a 5 0 0;person b 5 0 0;person c 5 0 1;knows b f;ask p plain none none f;ask q plain g none f;"
                + "nine 1;seed 4321;");
        for (int day = 0; day < 12; day++) {
            CHECKS.due("10: what it SUPPOSES isn't KNOWN", x.ask(0, 1, 1), -2);
            CHECKS.due("10: another ROOM", x.ask(0, 2, 0), -2);
            CHECKS.due("10: from another ROOM", x.ask(2, 1, 0), -2);
            CHECKS.due("10: it isn't counted", x.person(0, 5), 0);
            int due = same.ask(0, 1, 0);
            CHECKS.due("10: no number is gone by what can't be asked", x.ask(0, 1, 0), due);
            CHECKS.due("10: nine are asked", x.ask(0, 1, 0), -2);
            CHECKS.due("10: nobody LOST by it", x.person(1, 4), same.person(1, 4));
            CHECKS.due("10: nothing to undo by it", x.count(11), same.count(11));
            CHECKS.due("10: asked in all", x.count(8), day + 1);
            x.end();
            same.end();
        }
    }

    /** "each other PERSON in the ROOM, the asked one too, who HEARS ... (without, with an ERROR: always, by back if WIT is 5 at least)" */
    private static void promise10WhoHears() {
        String persons = "fact f;fact g;person a 0 0 1;person b 0 4 1;person c 0 5 1;person d 0 6 1;person e 0 9 2;knows a f;knows a g;"
                + "ask p plain f none none;ask d double f g none;ask k back f g none;ask i idle g f none;";
        int[][] usual = {{3, 1, 1, 1, 0}, {3, 3, 3, 3, 0}, {3, 0, 1, 1, 0}, {3, 2, 2, 2, 0}};
        String[] alike = {"", "law hear 1/0;", "law hear 1000*1000*1000*1000*2;"};
        for (int q = 0; q < 4; q++) {
            for (String law : alike) {
                AskedCourt x = Checks.court(persons + law);
                CHECKS.due("10: asked", x.ask(0, 1 + q % 3, q), 0);
                dueKnown("10: by QUESTION " + q + " " + law, x, usual[q]);
            }
            for (String law : new String[] {"1", "0-1", "1000", "wit+1"}) {
                AskedCourt x = Checks.court(persons + "law hear " + law + ";");
                x.ask(0, 1, q);
                int all = q == 1 ? 3 : q == 3 ? 2 : 1;
                dueKnown("10: hear " + law + " isn't 0, QUESTION " + q, x, new int[] {3, all, all, all, 0});
            }
            for (String law : new String[] {"0", "wit > 9", "kind = 7", "1/2", "not 5", "room <> 1", "day"}) {
                AskedCourt x = Checks.court(persons + "law hear " + law + ";");
                x.ask(0, 1, q);
                dueKnown("10: hear " + law + " is 0, QUESTION " + q, x, new int[] {3, 0, 0, 0, 0});
            }
        }
        AskedCourt x = Checks.court(persons + "law hear 1/(wit-4);");
        x.ask(0, 2, 0);
        dueKnown("10: an ERROR of one alone", x, new int[] {3, 1, 1, 0, 0});
        x = Checks.court(persons + "law hear 1/(wit-4);");
        x.ask(0, 2, 2);
        dueKnown("10: an ERROR of one alone, by back", x, new int[] {3, 0, 1, 0, 0});
        x = Checks.court(persons + "law hear 1/(wit-5)+1;");
        x.ask(0, 2, 2);
        dueKnown("10: an ERROR of WIT 5, by back", x, new int[] {3, 0, 1, 1, 0});
        x = Checks.court(persons + "law hear heard = 1;");
        x.tell(2, 1);
        x.ask(0, 3, 1);
        dueKnown("10: heard of who hears", x, new int[] {3, 0, 3, 0, 0});
    }

    private static void dueKnown(String what, AskedCourt x, int[] known) {
        for (int person = 0; person < known.length; person++) {
            CHECKS.due(what + ", PERSON " + person, x.person(person, 3), known[person]);
        }
    }

    /** "if the asked one KNOWS what it ASKS (knew it ahead of (1) or knows it now)" */
    private static void promise10WhatIsKnown() {
        String two = "fact f;fact g;person a 0 0 0;person b 0 4 0;person c 0 0 0;knows a f;knows a g;";
        AskedCourt x = Checks.court(two + "ask p plain f none f;law slip 100;");
        CHECKS.due("10: known by (1)", x.ask(0, 1, 0), 1);
        x = Checks.court(two + "ask p back f none f;law slip 100;");
        CHECKS.due("10: not heard by back", x.ask(0, 1, 0), 0);
        CHECKS.due("10: not known then", x.person(1, 3), 0);
        x.tell(1, 0);
        CHECKS.due("10: known ahead of (1)", x.ask(0, 1, 0), 1);
        CHECKS.due("10: who didn't hear knows what is let slip", x.person(2, 3), 1);
        x = Checks.court(two + "ask p double f g g;law slip 100;");
        CHECKS.due("10: known by (1), supposed also", x.ask(0, 1, 0), 1);
        x = Checks.court(two + "ask p plain f g g;law slip 100;");
        CHECKS.due("10: also doesn't count but of double", x.ask(0, 1, 0), 0);
        x = Checks.court(two + "ask p idle f none f;law slip 100;");
        CHECKS.due("10: idle", x.ask(0, 1, 0), 0);
        CHECKS.due("10: what idle SUPPOSES is heard", x.person(1, 3), 1);
        CHECKS.due("10: nobody LOST by idle", x.count(7), 0);
        x = Checks.court(two + "ask p plain f none g;law slip 100*(heard=1);");
        x.tell(1, 1);
        CHECKS.due("10: heard behind (1): two are KNOWN", x.ask(0, 1, 0), 0);
        x = Checks.court(two + "ask p plain f none g;law slip 100*(heard=2);");
        x.tell(1, 1);
        CHECKS.due("10: heard behind (1): they are two", x.ask(0, 1, 0), 1);
        String kinds = two + "ask p plain none none g;ask d double none none g;ask k back none none g;ask i idle none none g;law slip 100;";
        for (int kind = 0; kind < 4; kind++) {
            x = Checks.court(kinds);
            CHECKS.due("10: of kinds but idle " + kind, x.ask(1, 0, kind), kind == 3 ? 0 : 1);
            CHECKS.due("10: LOST " + kind, x.person(0, 4), kind == 3 ? 0 : 1);
        }
    }

    /** "all in the ROOM know it then; the asked one LOST once more" */
    private static void promise10WhoKnowsThen() {
        AskedCourt x = Checks.court("fact f;fact g;person a 0 0 2;person b 9 0 2;person c 9 0 2;person d 0 0 3;person e 0 0 2;knows b g;knows c g;"
                + "ask p plain none none g;law slip 100;law hear 0;");
        CHECKS.due("10: let slip", x.ask(0, 1, 0), 1);
        dueKnown("10: all in the ROOM", x, new int[] {2, 2, 2, 0, 2});
        int[] lost = {0, 1, 0, 0, 0};
        for (int person = 0; person < 5; person++) {
            CHECKS.due("10: who LOST, PERSON " + person, x.person(person, 4), lost[person]);
        }
        x.send(3, 2);
        CHECKS.due("10: who comes later doesn't know it", x.person(3, 3), 0);
        CHECKS.due("10: asked by that one", x.ask(3, 0, 0), 1);
        CHECKS.due("10: it knows then", x.person(3, 3), 2);
        CHECKS.due("10: all LOST", x.count(7), 2);
        CHECKS.due("10: a FACT once KNOWN stays so", x.end(), 1);
        dueKnown("10: on another DAY", x, new int[] {2, 2, 2, 2, 2});
    }

    private static long next(long number) {
        return (number * 1103515245L + 12345L) % 2147483648L;
    }

    private static String slipping(long slip, int seed) {
        return "fact f;person a 0 0 0;person b 5 0 0;knows b f;ask p plain none none f;seed " + seed + ";law slip " + slip + ";";
    }

    /** "if that is above a number modulo 100" */
    private static void promise10AboveANumber() {
        for (int seed : new int[] {0, 1, 2, 3, 50, 777, 12345, 99998, 99999}) {
            long number = next(seed) / 65536 % 100;
            if (number > 0) {
                CHECKS.due("10: as much as the number, seed " + seed, Checks.court(slipping(number, seed)).ask(0, 1, 0), 0);
            }
            if (number < 99) {
                CHECKS.due("10: one above it, seed " + seed, Checks.court(slipping(number + 1, seed)).ask(0, 1, 0), 1);
            }
        }
        for (int lips = 0; lips <= 9; lips++) {
            AskedCourt x = Checks.court("fact f;person a 0 0 0;person b " + lips + " 0 0;knows b f;ask p plain none none f;seed 31;nine 99;");
            long number = 31;
            for (int i = 0; i < 40; i++) {
                number = lips == 0 ? number : next(number);
                CHECKS.due("10: 10 times LIPS " + lips, x.ask(0, 1, 0), 10 * lips > number / 65536 % 100 && lips > 0 ? 1 : 0);
            }
        }
    }

    /** "(no number, if it is 0 or 100)": the law is an edge's by the first KIND, 50 by the other one. */
    private static void promise10NoNumber() {
        for (String edge : new String[] {"0", "100", "0-1", "101", "0-1000", "9999"}) {
            AskedCourt x = Checks.court("fact f;person a 0 0 0;person b 5 0 0;knows b f;ask p plain none none f;ask k back none none f;"
                    + "ask i idle none none f;ask n back none none none;nine 99;seed 5;law slip (kind=0)*(" + edge + ")+(kind>0)*50;");
            long number = 5;
            for (int i = 0; i < 15; i++) {
                CHECKS.due("10: at " + edge, x.ask(0, 1, 0), edge.startsWith("0") ? 0 : 1);
                CHECKS.due("10: idle needs no number", x.ask(0, 1, 2), 0);
                CHECKS.due("10: what isn't asked for needs no number", x.ask(0, 1, 3), 0);
                number = next(number);
                CHECKS.due("10: 50 between those at " + edge, x.ask(0, 1, 1), 50 > number / 65536 % 100 ? 1 : 0);
            }
        }
        AskedCourt x = Checks.court("fact f;fact g;person a 0 0 0;person b 5 0 0;knows b f;ask g plain none none g;ask f plain none none f;seed 8;nine 99;");
        long number = 8;
        for (int i = 0; i < 15; i++) {
            CHECKS.due("10: what isn't KNOWN needs no number", x.ask(0, 1, 0), 0);
            number = next(number);
            CHECKS.due("10: LIPS 5 between those", x.ask(0, 1, 1), 50 > number / 65536 % 100 ? 1 : 0);
        }
    }

    /** "by E of slip (0 .. 100; 10 times LIPS without, with an ERROR)" */
    private static void promise10BeyondTheEdges() {
        String[] sure = {"100", "101", "9999", "1000*1000*1000*1000"};
        String[] not = {"0", "0-1", "0-100", "0-1000*1000*1000*1000"};
        for (int i = 0; i < 4; i++) {
            AskedCourt yes = Checks.court("fact f;person a 0 0 0;person b 0 0 0;knows b f;ask p plain none none f;seed 3;law slip " + sure[i] + ";");
            AskedCourt no = Checks.court("fact f;person a 0 0 0;person b 9 0 0;knows b f;ask p plain none none f;seed 3;law slip " + not[i] + ";");
            for (int k = 0; k < 9; k++) {
                CHECKS.due("10: as 100: " + sure[i], yes.ask(0, 1, 0), 1);
                CHECKS.due("10: as 0: " + not[i], no.ask(0, 1, 0), 0);
            }
        }
        for (String law : new String[] {"1/0", "1000*1000*1000*1000+1", "100/lost"}) {
            AskedCourt x = Checks.court("fact f;person a 0 0 0;person b 0 0 0;person c 9 0 0;knows b f;knows c f;ask p plain none none f;law slip " + law + ";");
            CHECKS.due("10: with an ERROR by LIPS 0: " + law, x.ask(0, 1, 0), 0);
            CHECKS.due("10: with an ERROR by LIPS 9, the number 0 of seed 0: " + law, x.ask(0, 2, 0), 1);
            CHECKS.due("10: " + law + " of who LOST", x.law(0, 2, 0), law.endsWith("lost") ? 100 : ERROR);
        }
    }

    /** "true; false: no such ones, it is KNOWN." */
    private static void promise11() {
        AskedCourt x = Checks.court(FULL);
        String before = Checks.told(x);
        for (int none : Checks.beyond(5)) {
            CHECKS.due("11: no such PERSON " + none, x.tell(none, 0), false);
        }
        for (int none : Checks.beyond(8)) {
            CHECKS.due("11: no such FACT " + none, x.tell(0, none), false);
        }
        CHECKS.due("11: it is KNOWN by the TEXT", x.tell(4, 7), false);
        CHECKS.dueSame("11: nothing changes by these, nothing is to undo", Checks.told(x), before);
        CHECKS.due("11: the first one, the last FACT", x.tell(0, 7), true);
        CHECKS.due("11: the last one, the first FACT", x.tell(4, 0), true);
        CHECKS.due("11: it is KNOWN by call", x.tell(0, 7), false);
        dueKnown("11: those two alone", x, new int[] {128, 0, 0, 0, 129});
        CHECKS.due("11: two are to undo", x.count(11), 2);
        CHECKS.due("11: by nobody's question", x.count(8), 0);
        CHECKS.due("11: undone", x.undo(), 1);
        CHECKS.due("11: it isn't KNOWN any more", x.tell(4, 0), true);
    }

    /** "A PERSON goes to a ROOM 0 .. 3: true; false: no such ones, that is where it is." */
    private static void promise12() {
        AskedCourt x = Checks.court(FULL);
        String before = Checks.told(x);
        for (int none : Checks.beyond(5)) {
            CHECKS.due("12: no such PERSON " + none, x.send(none, 0), false);
        }
        for (int none : Checks.beyond(4)) {
            CHECKS.due("12: no such ROOM " + none, x.send(0, none), false);
        }
        int[] rooms = {2, 3, 0, 1, 3};
        for (int person = 0; person < 5; person++) {
            CHECKS.due("12: that is where it is, PERSON " + person, x.send(person, rooms[person]), false);
        }
        CHECKS.dueSame("12: nobody goes by these, nothing is to undo", Checks.told(x), before);
        for (int room = 0; room < 4; room++) {
            CHECKS.due("12: ROOM " + room, x.send(4, room), true);
            CHECKS.due("12: there it is", x.person(4, 2), room);
            CHECKS.due("12: once more", x.send(4, room), false);
        }
        CHECKS.due("12: four are to undo", x.count(11), 4);
        CHECKS.due("12: undone", x.undo(), 3);
        CHECKS.due("12: in the ROOM ahead of it", x.person(4, 2), 2);
        CHECKS.due("12: nobody else goes", x.person(0, 2) * 1000 + x.person(1, 2) * 100 + x.person(2, 2) * 10 + x.person(3, 2), 2301);
    }

    /** "The DAY ends: which one it is then" */
    private static void promise13() {
        AskedCourt x = Checks.court("fact f;person a 0 0 0;person b 0 0 0;ask p plain none none f;nine 2;");
        x.ask(0, 1, 0);
        x.ask(0, 1, 0);
        x.ask(1, 0, 0);
        CHECKS.due("13: DAY 1", x.end(), 1);
        CHECKS.due("13: the DAY", x.count(5), 1);
        CHECKS.due("13: nothing asked this DAY", x.person(0, 5) + x.person(1, 5), 0);
        CHECKS.due("13: asked in all", x.count(8), 3);
        CHECKS.due("13: DAY 2", x.end(), 2);
        CHECKS.due("13: undone", x.undo(), 4);
        CHECKS.due("13: DAY 1 again", x.count(5), 1);
        CHECKS.due("13: undone, too", x.undo(), 3);
        CHECKS.due("13: asked on DAY 0", x.person(0, 5) * 10 + x.person(1, 5), 21);
        CHECKS.due("13: DAY 1 once more", x.end(), 1);
        CHECKS.due("13: without a TEXT", new AskedCourt().end(), 1);
    }

    /** "NONE, and it doesn't: behind 999." No run of 512 calls comes there; the class keeps to it all the same. */
    private static void promise13BehindTheLast() {
        AskedCourt x = Checks.court("fact f;person a 0 0 0;person b 0 0 0;ask p plain none none f;");
        for (int day = 1; day <= 998; day++) {
            CHECKS.due("13: DAY " + day, x.end(), day);
        }
        x.ask(0, 1, 0);
        CHECKS.due("13: the last DAY", x.end(), 999);
        x.ask(0, 1, 0);
        int undone = x.count(11);
        CHECKS.due("13: behind 999", x.end(), -1);
        CHECKS.due("13: it doesn't end", x.count(5), 999);
        CHECKS.due("13: what was asked stays", x.person(0, 5), 1);
        CHECKS.due("13: nothing more to undo", x.count(11), undone);
        x.undo();
        CHECKS.due("13: undone: the question", x.person(0, 5), 0);
        x.undo();
        CHECKS.due("13: undone: the DAY", x.count(5), 998);
        CHECKS.due("13: it ends again", x.end(), 999);
    }
}
