/** Promises 14 to 21 and 35, sentence by sentence: what lies at each edge that the document names, and right beyond it. */
public final class EdgesAllTest {
    private static final Checks CHECKS = new Checks("EdgesAllTest");
    private static final String FIVE = "person a 0 0 0;person b 9 0 0;person c 9 0 0;person d 9 0 0;person e 9 0 0;";
    private static final String FULL = "fact fa;fact fb;fact fc;fact fd;fact fe;fact ff;fact fg;fact fh;" + FIVE
            + "knows e fh;ask qa plain none none fh;ask qb plain fh none fa;";

    public static void main(String[] args) {
        promise14();
        promise14Rounds();
        promise14ManyRounds();
        promise14ByNumbers();
        promise14AsItGoes();
        promise14AllEight();
        promise15();
        promise16();
        promise16NeitherAskNorAreAsked();
        promise17();
        promise18();
        promise18NotNeeded();
        promise18TheFirst();
        promise19();
        promise20();
        promise21();
        promise35();
        promise35Otherwise();
        noSuchOnes();
        nothingChanges();
        CHECKS.end();
    }

    /** "nine doesn't matter"; "in their ROOM"; "of all others" */
    private static void promise14() {
        AskedCourt x = Checks.court(FULL + "nine 0;");
        for (int person = 0; person < 5; person++) {
            CHECKS.due("14: nine doesn't matter, PERSON " + person, x.all(person), 128);
        }
        x.send(0, 1);
        CHECKS.due("14: who is elsewhere", x.all(0), 0);
        CHECKS.due("14: who is there", x.all(1), 128);
        x.send(4, 1);
        CHECKS.due("14: the one who knows goes there", x.all(0), 128);
        CHECKS.due("14: and is gone from here", x.all(1), 0);
        x = Checks.court("fact f;fact g;person a 9 9 0;knows a f;ask p plain f none g;ask q plain none none f;");
        CHECKS.due("14: who is alone learns nothing", x.all(0), 1);
        x = Checks.court("fact f;person a 9 9 0;person b 9 9 0;");
        CHECKS.due("14: no QUESTIONS", x.all(0), 0);
        x = Checks.court("fact f;fact g;person a 9 9 0;person b 9 9 0;knows a f;knows a g;ask p double f g none;law hear 0;law slip 100;");
        CHECKS.due("14: nobody is asked by oneself", x.all(1), 0);
    }

    /** "till a whole round adds nothing": nobody hears, each of b's FACTS is needed to be told the one ahead of it. */
    private static void promise14Rounds() {
        StringBuilder text = new StringBuilder();
        for (int i = 0; i < 8; i++) {
            text.append("fact f").append((char) ('a' + i)).append(";");
        }
        text.append("person a 0 0 0;person b 9 0 0;");
        for (int i = 0; i < 8; i++) {
            text.append("knows b f").append((char) ('a' + i)).append(";");
        }
        for (int i = 0; i < 7; i++) {
            text.append("ask ").append((char) ('a' + i)).append(" plain f").append((char) ('b' + i)).append(" none f")
                    .append((char) ('a' + i)).append(";");
        }
        String last = "ask h plain none none fh;law hear 0;";
        AskedCourt x = CHECKS.dueLines(text + last, 27);
        CHECKS.due("14: eight rounds", x.all(0), 255);
        CHECKS.due("15: by the eighth round", x.never(0, 0), 0);
        CHECKS.due("17: by the eighth round", x.spread(0), 3);
        x = CHECKS.dueLines(text + "ask h idle none none fh;law hear 0;", 27);
        CHECKS.due("14: the first round adds nothing", x.all(0), 0);
        x.tell(0, 3);
        CHECKS.due("14: three rounds", x.all(0), 15);
        x.tell(0, 4);
        x.tell(0, 7);
        CHECKS.due("14: what is known beforehand is known", x.all(0), 255);
        x = Checks.court("fact f;fact g;person a 0 0 0;person b 0 0 0;knows b f;knows b g;knows a f;"
                + "ask q plain none none g;ask p double none none f;law slip 50*kind+50*(lost>1);");
        CHECKS.due("14: a round that adds but LOST adds nothing", x.all(0), 1);
        x = Checks.court("fact f;fact g;person a 0 0 0;person b 0 0 0;knows b f;knows b g;knows a f;"
                + "ask p double none none f;ask q plain none none g;law slip 50*kind+50*(lost>1);");
        CHECKS.due("14: each asks each QUESTION once a round", x.all(0), 1);
        String clock = "fact f;fact g;fact h;person a 0 0 0;person b 0 0 0;knows b f;knows b g;knows a f;"
                + "ask q plain none none g;ask p double none none f;law slip 50*kind+50*(lost>0);";
        x = Checks.court(clock);
        CHECKS.due("14: g would be let slip by a second round", x.all(0), 1);
        CHECKS.due("15: none comes", x.never(0, 1), 1);
        CHECKS.due("16: none comes", x.away(0, 1), 0);
        CHECKS.due("17: none comes", x.spread(1), 2);
        CHECKS.due("18: none comes", x.hint(0, 1, 0), -2);
        CHECKS.due("20: none comes", x.inRoom(0, 0), 3);
        CHECKS.due("35: none comes", x.tried(4, 0), 3);
        x = Checks.court(clock + "ask s plain h none none;");
        CHECKS.due("18: by h, which b hears, one comes", x.hint(0, 1, 0) * 10 + x.hint(0, 1, 1), 2);
    }

    /** All LOSE four times a round by the clock (qa), and hear one FACT more for each sixteen: one PERSON a round. */
    private static void promise14ManyRounds() {
        StringBuilder text = new StringBuilder("fact z;");
        for (int i = 0; i < 7; i++) {
            text.append("fact f").append((char) ('a' + i)).append(";");
        }
        text.append("person a 0 0 0;person b 0 0 0;person c 0 1 0;person d 0 2 0;person e 0 3 0;"
                + "knows a z;knows b z;knows c z;knows d z;knows e z;ask qz double none none z;");
        for (int i = 0; i < 7; i++) {
            char fact = (char) ('a' + i);
            text.append("knows a f").append(fact).append(";ask q").append(fact).append(" plain f").append(fact).append(" none none;");
        }
        AskedCourt x = CHECKS.dueLines(text + "law slip 100;law hear lost>16*heard-16+4*wit;", 35);
        for (int person = 0; person < 5; person++) {
            CHECKS.due("14: twenty-eight rounds, PERSON " + person, x.all(person), 255);
        }
        CHECKS.due("20: twenty-eight rounds, in sum", x.inRoom(0, 0), 40);
        CHECKS.due("16: who alone knew it at first", x.away(4, 1), 1);
        CHECKS.due("35: nobody LOSES: nobody hears", x.tried(0, 0), 12);
    }

    /** "(by numbers of who asks, whom, QUESTIONS ...)" */
    private static void promise14ByNumbers() {
        AskedCourt x = Checks.court("fact f;fact g;person a 0 0 0;person b 0 0 0;knows b f;knows b g;ask f plain none none f;ask g plain none none g;"
                + "law slip 100*(lost<1);");
        CHECKS.due("14: QUESTIONS by their numbers: f slips, then nothing", x.all(0), 1);
        x = Checks.court("fact f;fact g;person a 0 0 0;person b 0 0 0;knows b f;knows b g;ask g plain none none g;ask f plain none none f;"
                + "law slip 100*(lost<1);");
        CHECKS.due("14: QUESTIONS by their numbers: g slips, then nothing", x.all(0), 2);
        x = Checks.court("fact f;fact g;person a 0 0 0;person b 0 0 0;person c 0 0 0;knows b f;knows c g;ask g plain none none g;ask f plain none none f;"
                + "law slip 100*(heard<2);");
        CHECKS.due("14: all QUESTIONS of b ahead of those of c: f", x.all(0), 1);
        CHECKS.due("14: c heard f and keeps g", x.all(2), 3);
        CHECKS.due("14: b never learns g", x.all(1), 1);
        x = Checks.court("fact f;fact g;fact s;fact t;fact u;person a 0 0 0;person b 0 0 0;person c 0 0 0;knows a f;knows a t;knows b s;knows c g;knows c u;"
                + "ask f plain s none f;ask g plain t none g;law hear 0;law slip 100*(heard<3);");
        CHECKS.due("14: all that a asks ahead of what a is asked: g slips", x.all(0), 11);
        CHECKS.due("14: then a heard three and keeps f", x.all(1), 6);
        CHECKS.due("14: c", x.all(2), 18);
    }

    /** "AS IT GOES: without numbers: LET SLIP is what has 50 at least." */
    private static void promise14AsItGoes() {
        String[] slips = {"0-9999", "0", "1", "49", "50", "51", "99", "100", "9999"};
        for (int i = 0; i < slips.length; i++) {
            AskedCourt x = Checks.court("fact f;person a 0 0 0;person b 0 0 0;knows b f;ask p plain none none f;law slip " + slips[i] + ";");
            CHECKS.due("14: slip " + slips[i], x.all(0), i < 4 ? 0 : 1);
        }
        for (int lips = 0; lips <= 9; lips++) {
            AskedCourt x = Checks.court("fact f;person a 0 0 0;person b " + lips + " 0 0;knows b f;ask p plain none none f;");
            CHECKS.due("14: LIPS " + lips, x.all(0), lips < 5 ? 0 : 1);
            x = Checks.court("fact f;person a 0 0 0;person b " + lips + " 0 0;knows b f;ask p plain none none f;law slip 1/0;");
            CHECKS.due("14: an ERROR, LIPS " + lips, x.all(0), lips < 5 ? 0 : 1);
        }
    }

    /** Five PERSONS, eight FACTS: all of them known to all. */
    private static void promise14AllEight() {
        AskedCourt x = Checks.court("fact fa;fact fb;fact fc;fact fd;fact fe;fact ff;fact fg;fact fh;" + FIVE
                + "knows a fa;knows a fb;knows b fc;knows b fd;knows c fe;knows d ff;knows d fg;knows e fh;ask a plain none none fe;ask b double fa fb fc;"
                + "ask c back fc none fd;ask d double fd fe ff;ask e plain ff none fg;ask f double fg fg fh;");
        for (int person = 0; person < 5; person++) {
            CHECKS.due("14: all eight, PERSON " + person, x.all(person), 255);
        }
        for (int fact = 0; fact < 8; fact++) {
            CHECKS.due("17: all five, FACT " + fact, x.spread(fact), 31);
        }
        CHECKS.due("20: forty in sum", x.inRoom(0, 0), 40);
        CHECKS.due("35: forty in sum", x.tried(1, 0), 40);
    }

    /** "NEVER (1, 0); NONE: no such ones." */
    private static void promise15() {
        AskedCourt x = Checks.court(FULL);
        CHECKS.due("15: it is told", x.never(0, 7), 0);
        CHECKS.due("15: it isn't", x.never(0, 0), 1);
        CHECKS.due("15: nobody knows it", x.never(4, 0), 1);
        CHECKS.due("15: it is KNOWN", x.never(4, 7), 0);
        x.send(0, 3);
        CHECKS.due("15: elsewhere", x.never(0, 7), 1);
        x.tell(1, 0);
        CHECKS.due("15: b lets it slip", x.never(2, 0), 0);
    }

    /** "AWAY: the fewest other PERSONS (bits, of several the least)"; "0: it never does with all"; "-2: by none (it is KNOWN already ...)" */
    private static void promise16() {
        AskedCourt x = Checks.court(FULL);
        CHECKS.due("16: who alone knows it", x.away(0, 7), 16);
        CHECKS.due("16: it never does with all", x.away(0, 0), 0);
        CHECKS.due("16: KNOWN already", x.away(4, 7), -2);
        x.tell(0, 0);
        CHECKS.due("16: KNOWN already by call", x.away(0, 0), -2);
        x.tell(3, 7);
        CHECKS.due("16: two who know it", x.away(0, 7), 24);
        x.tell(2, 7);
        CHECKS.due("16: three", x.away(0, 7), 28);
        x.tell(1, 7);
        CHECKS.due("16: all others", x.away(0, 7), 30);
        x.send(2, 1);
        CHECKS.due("16: but those who are elsewhere", x.away(0, 7), 26);
        x = Checks.court("fact f;fact g;person a 0 0 0;person b 9 0 0;person c 0 0 0;person d 0 0 0;knows d f;knows c g;ask p plain g none f;ask q plain f none none;");
        x.send(1, 2);
        CHECKS.due("16: d alone supposes it: d", x.away(0, 0), 8);
        x = Checks.court("fact f;fact g;person a 9 0 0;person b 0 0 0;person c 0 0 0;knows a f;knows b g;ask p plain g none f;");
        CHECKS.due("16: c: a or b, the least", x.away(2, 0), 1);
        CHECKS.due("16: b: a", x.away(1, 0), 1);
        x = Checks.court("fact f;fact g;person a 0 0 0;person b 9 0 0;person c 9 0 0;person d 0 0 0;person e 0 0 0;knows b f;knows c f;knows d g;knows e g;"
                + "ask p plain g none f;law hear 0;");
        CHECKS.due("16: two who know it or two who can ask: the least", x.away(0, 0), 6);
        x = Checks.court("fact f;fact g;person a 0 0 0;person b 9 0 0;person c 9 0 0;person d 9 0 0;person e 0 0 0;knows b f;knows c f;knows d f;knows e g;"
                + "ask p plain g none f;law hear 0;");
        CHECKS.due("16: one who asks is fewer than three of lower bits", x.away(0, 0), 16);
        CHECKS.due("16: of who asks it can only be the three", x.away(4, 0), 14);
        x = Checks.court("fact f;person a 0 0 0;");
        CHECKS.due("16: alone", x.away(0, 0), 0);
    }

    /** "(they neither ask nor are asked nor hear)" */
    private static void promise16NeitherAskNorAreAsked() {
        AskedCourt x = Checks.court("fact f;fact g;person a 0 0 0;person b 9 0 0;person c 0 0 0;knows b f;knows c g;ask p plain g none f;law hear 0;");
        CHECKS.due("16: without who is asked", x.away(0, 0), 2);
        CHECKS.due("16: of who asks", x.away(2, 0), 2);
        x = Checks.court("fact f;fact g;person a 9 0 0;person b 0 0 0;person c 0 0 0;knows a f;knows b g;ask p plain g none f;law hear 0;");
        x.tell(2, 1);
        CHECKS.due("16: without one who is asked, not both who ask", x.away(2, 0), 1);
        x = Checks.court("fact f;fact g;fact h;person a 0 0 0;person b 9 0 0;person c 9 9 0;knows b f;knows b h;ask p back h none none;ask q plain h none f;law slip 100*(wit=0);");
        CHECKS.due("16: a: b", x.away(0, 0), 2);
        x.tell(0, 2);
        x.tell(2, 0);
        CHECKS.due("16: two of them", x.away(0, 0), 2);
        // that c hears f makes for a second round, in which b, who has LOST, lets g slip
        String clock = "knows b f;knows b g;knows a f;ask q plain none none g;ask p double none none f;law slip 50*kind+50*(lost>0);";
        x = Checks.court("fact f;fact g;person c 0 0 0;person a 0 0 0;person b 0 0 0;" + clock);
        CHECKS.due("16: c hears: a second round", x.never(1, 1), 0);
        CHECKS.due("16: c doesn't hear: none", x.away(1, 1), 1);
        CHECKS.due("35: c doesn't hear: none", x.tried(2, 0), 3);
        x = Checks.court("fact f;fact g;person a 0 0 0;person b 0 0 0;person c 0 0 0;" + clock);
        CHECKS.due("35: c, the last one, doesn't hear: none", x.tried(2, 2), 3);
        CHECKS.due("35: with c a second round", x.tried(4, 0), 6);
        x = Checks.court("fact f;fact g;fact h;person c 0 0 0;person a 0 0 0;person b 0 0 0;knows a h;knows b h;ask s plain h none none;" + clock);
        x.tell(0, 0);
        CHECKS.due("16: c hears what is supposed: a second round", x.never(1, 1), 0);
        CHECKS.due("16: c doesn't hear what is supposed: none", x.away(1, 1), 1);
        CHECKS.due("35: c doesn't hear what is supposed: none", x.tried(2, 0), 5);
    }

    /** "PERSONS (bits) who KNOW a FACT behind ALL; NONE: no such FACT." */
    private static void promise17() {
        AskedCourt x = Checks.court(FULL);
        CHECKS.due("17: all five", x.spread(7), 31);
        CHECKS.due("17: nobody", x.spread(0), 0);
        x.send(4, 3);
        CHECKS.due("17: the last one alone", x.spread(7), 16);
        x.send(2, 3);
        CHECKS.due("17: two in ROOM 3", x.spread(7), 20);
        for (int none : Checks.beyond(8)) {
            CHECKS.due("17: no such FACT " + none, x.spread(none), -1);
        }
    }

    /** "(not KNOWN to that one, another one than is to be learnt)"; "of several the first by who, FACT" */
    private static void promise18() {
        AskedCourt x = Checks.court("fact f;fact g;person a 0 0 0;person b 9 0 0;ask p plain none none f;");
        CHECKS.due("18: f itself isn't told", x.hint(0, 0, 0), -2);
        CHECKS.due("18: f itself isn't told, which", x.hint(0, 0, 1), -2);
        x = Checks.court("fact f;fact g;person a 0 0 0;person b 9 0 0;knows b f;ask p plain g none f;");
        CHECKS.due("18: a is told", x.hint(0, 0, 0), 0);
        CHECKS.due("18: g", x.hint(0, 0, 1), 1);
        x.tell(0, 1);
        x.keep();
        x.undo();
        CHECKS.due("18: what a KNOWS in the IMAGE doesn't matter", x.hint(0, 0, 0) * 10 + x.hint(0, 0, 1), 1);
        x.tell(1, 1);
        CHECKS.due("18: b supposes it of a: it isn't needed", x.hint(0, 1, 0), -2);
        x = Checks.court("fact f;fact g;person a 0 0 0;person b 9 0 0;person c 0 0 1;knows b f;knows c g;ask p plain g none f;");
        CHECKS.due("18: c knows g, elsewhere: a is told", x.hint(0, 0, 0), 0);
        x = Checks.court("fact f;fact g;person a 0 0 0;person b 9 0 1;person c 9 0 0;person d 0 0 0;person e 0 0 0;knows c f;ask p plain g none f;law hear 0;"
                + "law slip 100*(wit=0)*(lips=9);");
        CHECKS.due("18: the first who can ask c", x.hint(4, 0, 0), 0);
        CHECKS.due("18: who learns may be told", x.hint(0, 0, 0), 0);
        x.send(0, 2);
        CHECKS.due("18: c can't ask c, d can", x.hint(4, 0, 0), 3);
        CHECKS.due("18: d is told g", x.hint(4, 0, 1), 1);
        CHECKS.due("18: nobody is there to ask a", x.hint(0, 0, 0), -2);
    }

    /** "-2: by none, or it isn't needed; NONE: no such ones." */
    private static void promise18NotNeeded() {
        AskedCourt x = Checks.court(FULL);
        for (int what = 0; what < 2; what++) {
            CHECKS.due("18: KNOWN", x.hint(4, 7, what), -2);
            CHECKS.due("18: learnt so", x.hint(0, 7, what), -2);
            CHECKS.due("18: by none", x.hint(0, 1, what), -2);
            for (int none : Checks.beyond(5)) {
                CHECKS.due("18: no such PERSON " + none, x.hint(none, 0, what), -1);
            }
            for (int none : Checks.beyond(8)) {
                CHECKS.due("18: no such FACT " + none, x.hint(0, none, what), -1);
            }
        }
        for (int none : Checks.beyond(2)) {
            CHECKS.due("18: no such what " + none, x.hint(0, 0, none), -1);
        }
        x = Checks.court("fact f;fact g;person a 0 0 0;person b 9 0 0;knows b f;ask p plain g none f;");
        for (int none : Checks.beyond(2)) {
            CHECKS.due("18: no such what " + none + ", where there is one", x.hint(0, 0, none), -1);
        }
    }

    private static void promise18TheFirst() {
        String facts = "fact fa;fact fb;fact fc;fact fd;fact fe;fact ff;fact fg;fact fh;person a 0 0 0;person b 9 0 0;knows b fh;";
        AskedCourt x = Checks.court(facts + "ask p plain fg none fh;ask q plain fc none fh;");
        CHECKS.due("18: the first who", x.hint(0, 7, 0), 0);
        CHECKS.due("18: the first FACT", x.hint(0, 7, 1), 2);
        x = Checks.court(facts + "ask p plain fa none fh;");
        CHECKS.due("18: FACT 0", x.hint(0, 7, 1), 0);
        x = Checks.court(facts + "ask p plain fa none fh;law slip 100*(heard=2);law hear 0;");
        CHECKS.due("18: a can't make b slip by itself", x.hint(0, 7, 1), -2);
        x.tell(0, 0);
        CHECKS.due("18: b must be told, not what b KNOWS", x.hint(0, 7, 0), 1);
        CHECKS.due("18: the first FACT of b", x.hint(0, 7, 1), 0);
        x.tell(1, 0);
        CHECKS.due("18: now it isn't needed", x.hint(0, 7, 0), -2);
        x.tell(1, 1);
        CHECKS.due("18: b KNOWS too much", x.hint(0, 7, 0), -2);
        x = Checks.court(facts + "ask p plain none none fh;law slip 100*(heard=3);law hear 0;");
        x.tell(1, 0);
        CHECKS.due("18: b is told the first that b doesn't KNOW", x.hint(0, 7, 1), 1);
        x = Checks.court("fact f;person a 0 0 0;person b 0 0 0;knows b f;ask p plain none none f;law slip 100*(heard=2);");
        CHECKS.due("18: there is no other FACT to be told", x.hint(0, 0, 0), -2);
        x = Checks.court("fact f;fact g;person a 0 0 0;person b 0 0 0;knows b f;knows b g;ask p plain none none f;law slip 100*(heard=3);");
        CHECKS.due("18: b KNOWS all there are", x.hint(0, 0, 1), -2);
        // in ALL a learns g too late: b has heard h by then, which c lets slip
        x = Checks.court("fact f;fact g;fact h;person a 0 5 0;person b 0 0 0;person c 0 9 0;knows b f;knows c g;knows c h;ask f plain g none f;ask h plain none none h;"
                + "law hear wit=5;law slip 100*(heard=1 or wit=9);");
        CHECKS.due("18: a learns g and h, not f", x.all(0), 6);
        CHECKS.due("18: not KNOWN to that one now", x.hint(0, 0, 0) * 10 + x.hint(0, 0, 1), 1);
    }

    /** "QUESTIONS (bits) that a PERSON can ASK nobody now; NONE: no such PERSON." */
    private static void promise19() {
        String text = "fact f;fact g;person a 0 0 0;person b 0 0 1;person c 0 0 1;person d 0 0 1;person e 0 0 0;knows e g;ask qa plain none none f;"
                + "ask qb plain f none none;ask qc double f g none;ask qd idle g none f;ask qe back none none none;ask qf plain g f none;"
                + "ask qg double none none none;ask qh double none g none;";
        AskedCourt x = Checks.court(text + "nine 2;");
        CHECKS.due("19: who KNOWS nothing", x.unasked(0), 2 + 4 + 8 + 32 + 128);
        CHECKS.due("19: who KNOWS g", x.unasked(4), 2 + 4);
        x.tell(4, 0);
        CHECKS.due("19: who KNOWS both", x.unasked(4), 0);
        x.ask(4, 0, 0);
        CHECKS.due("19: one is asked", x.unasked(4), 0);
        x.ask(4, 0, 0);
        CHECKS.due("19: nine are asked", x.unasked(4), 255);
        CHECKS.due("19: that it was asked doesn't count", x.unasked(0), 2 + 4 + 8 + 32 + 128);
        x.end();
        CHECKS.due("19: another DAY", x.unasked(4), 0);
        x.send(4, 2);
        CHECKS.due("19: alone", x.unasked(4), 255);
        CHECKS.due("19: alone, left behind", x.unasked(0), 255);
        CHECKS.due("19: nine 0", Checks.court(text + "nine 0;").unasked(4), 255);
        for (int none : Checks.beyond(5)) {
            CHECKS.due("19: no such PERSON " + none, x.unasked(none), -1);
        }
        CHECKS.due("19: no QUESTIONS", Checks.court("person a 0 0 0;person b 0 0 0;").unasked(0), 0);
    }

    /** "FACTS all KNOW in sum behind ALL, if a PERSON were in a ROOM 0 .. 3; NONE: no such ones." */
    private static void promise20() {
        AskedCourt x = Checks.court("fact f;person a 0 0 0;person b 9 0 1;person c 0 0 2;person d 0 0 2;person e 0 0 3;knows b f;ask p plain none none f;");
        int[] ofA = {1, 2, 1, 1};
        int[] ofB = {2, 1, 3, 2};
        int[] ofE = {1, 2, 1, 1};
        for (int room = 0; room < 4; room++) {
            CHECKS.due("20: a in ROOM " + room, x.inRoom(0, room), ofA[room]);
            CHECKS.due("20: b in ROOM " + room, x.inRoom(1, room), ofB[room]);
            CHECKS.due("20: e in ROOM " + room, x.inRoom(4, room), ofE[room]);
        }
        for (int none : Checks.beyond(5)) {
            CHECKS.due("20: no such PERSON " + none, x.inRoom(none, 0), -1);
        }
        for (int none : Checks.beyond(4)) {
            CHECKS.due("20: no such ROOM " + none, x.inRoom(0, none), -1);
        }
        x.send(1, 3);
        CHECKS.due("20: b where it is now", x.inRoom(1, 3), 2);
        CHECKS.due("20: b where it was", x.inRoom(1, 1), 1);
        x = Checks.court("fact f;person a 0 0 0;person b 0 0 1;knows b f;ask p plain none none f;law slip 100*(room=2);");
        x.send(0, 2);
        CHECKS.due("20: the ROOM counts in a law", x.inRoom(1, 2), 2);
        x.send(0, 3);
        CHECKS.due("20: not in another one", x.inRoom(1, 3), 1);
    }

    /** "The ROOM by which that is greatest, the first of several; NONE: no such PERSON." */
    private static void promise21() {
        for (int room = 0; room < 4; room++) {
            AskedCourt x = Checks.court("fact f;person a 0 0 " + (room + 1) % 4 + ";person b 9 0 " + room + ";knows b f;ask p plain none none f;");
            CHECKS.due("21: where b is, ROOM " + room, x.bestRoom(0), room);
            CHECKS.due("21: where a is", x.bestRoom(1), (room + 1) % 4);
        }
        AskedCourt x = Checks.court("fact f;person a 0 0 3;person b 9 0 1;person c 9 0 2;person d 0 0 3;person e 0 0 0;knows b f;knows c f;ask p plain none none f;");
        CHECKS.due("21: ROOM 1 or 2: the first", x.bestRoom(0), 1);
        CHECKS.due("21: b with a, d in ROOM 3", x.bestRoom(1), 3);
        x.send(1, 2);
        CHECKS.due("21: ROOM 2 alone", x.bestRoom(0), 2);
        x = Checks.court("fact f;person a 0 0 2;person b 0 0 2;");
        CHECKS.due("21: all are alike: ROOM 0", x.bestRoom(0), 0);
        for (int none : Checks.beyond(2)) {
            CHECKS.due("21: no such PERSON " + none, x.bestRoom(none), -1);
        }
    }

    /** "TRIED; NONE: no such ones (i 0 of 0, 1, 4)." */
    private static void promise35() {
        AskedCourt x = Checks.court(FULL);
        for (int what : new int[] {0, 1, 4}) {
            CHECKS.due("35: what " + what, x.tried(what, 0), 5);
            for (int none : Checks.beyond(1)) {
                CHECKS.due("35: what " + what + ", i " + none, x.tried(what, none), -1);
            }
        }
        int[] without = {4, 4, 4, 4, 0};
        for (int i = 0; i < 5; i++) {
            CHECKS.due("35: without PERSON " + i, x.tried(2, i), without[i]);
        }
        CHECKS.due("35: without QUESTION 0: qb SUPPOSES it", x.tried(3, 0), 5);
        CHECKS.due("35: without QUESTION 1", x.tried(3, 1), 5);
        for (int none : Checks.beyond(5)) {
            CHECKS.due("35: no such PERSON " + none, x.tried(2, none), -1);
            CHECKS.due("35: no such what " + none, x.tried(none, 0), -1);
        }
        for (int none : Checks.beyond(2)) {
            CHECKS.due("35: no such QUESTION " + none, x.tried(3, none), -1);
        }
        x = Checks.court("fact f;person a 0 0 0;person b 9 0 0;knows b f;");
        CHECKS.due("35: no QUESTIONS", x.tried(3, 0), -1);
        CHECKS.due("35: no QUESTIONS, nobody lets slip", x.tried(0, 0), 1);
    }

    private static void promise35Otherwise() {
        String text = "fact f;fact g;person a 0 0 1;person b 9 2 2;person c 9 4 2;knows b f;knows c g;ask p plain none none f;ask q plain none none g;"
                + "ask k back f none none;";
        AskedCourt x = Checks.court(text);
        CHECKS.due("35: as it is", x.inRoom(0, 1), 4);
        CHECKS.due("35: nobody lets slip: c doesn't hear by back", x.tried(0, 0), 2);
        CHECKS.due("35: all in ROOM 0", x.tried(1, 0), 6);
        CHECKS.due("35: a isn't there", x.tried(2, 0), 4);
        CHECKS.due("35: b isn't there, nor counted", x.tried(2, 1), 1);
        CHECKS.due("35: c isn't there, nor counted", x.tried(2, 2), 1);
        CHECKS.due("35: p isn't there", x.tried(3, 0), 3);
        CHECKS.due("35: q isn't there", x.tried(3, 1), 3);
        CHECKS.due("35: k isn't there", x.tried(3, 2), 4);
        CHECKS.due("35: all have WIT 9", x.tried(4, 0), 4);
        x = Checks.court("fact f;person a 9 0 1;person b 9 0 2;knows a f;ask p plain f none none;ask q plain none none f;");
        CHECKS.due("35: nobody lets slip, each in its ROOM", x.tried(0, 0), 1);
        CHECKS.due("35: all in ROOM 0, they let slip", x.tried(1, 0), 2);
        x = Checks.court("fact f;person a 0 0 1;person b 0 4 1;person c 9 9 1;person d 3 0 2;knows a f;ask k back f none none;");
        CHECKS.due("35: c alone hears", x.inRoom(0, 1), 2);
        CHECKS.due("35: all have WIT 9: both hear", x.tried(4, 0), 3);
        CHECKS.due("35: all in ROOM 0: the law of back", x.tried(1, 0), 2);
        x = Checks.court("fact f;fact g;person a 0 0 3;person b 0 9 3;knows a f;knows a g;ask p plain f none none;ask q plain g none none;law hear wit=9 and room=0;");
        CHECKS.due("35: not in ROOM 3", x.inRoom(0, 3), 2);
        CHECKS.due("35: all in ROOM 0: room is 0 in a law", x.tried(1, 0), 4);
        x = Checks.court("fact f;person a 0 0 0;person b 9 0 0;knows b f;ask p plain none none f;law slip 50+lost;");
        x.tell(0, 0);
        CHECKS.due("35: from now on", x.tried(0, 0), 2);
        CHECKS.due("35: nobody lets slip, as LIPS or a law tell", Checks.court("fact f;person a 0 0 0;person b 9 0 0;knows b f;ask p plain none none f;"
                + "law slip 100;").tried(0, 0), 1);
        int before = x.tried(4, 0);
        CHECKS.due("35: one behind another the same", x.tried(4, 0), before);
        CHECKS.due("35: what was tried otherwise is over", x.all(0), 1);
    }

    private static void noSuchOnes() {
        AskedCourt x = Checks.court(FULL);
        for (int none : Checks.beyond(5)) {
            CHECKS.due("14: no such PERSON " + none, x.all(none), -1);
            CHECKS.due("15: no such PERSON " + none, x.never(none, 7), -1);
            CHECKS.due("16: no such PERSON " + none, x.away(none, 7), -1);
        }
        for (int none : Checks.beyond(8)) {
            CHECKS.due("15: no such FACT " + none, x.never(0, none), -1);
            CHECKS.due("16: no such FACT " + none, x.away(0, none), -1);
        }
    }

    /** What is looked for changes nothing, and what one call tried otherwise is as ever in the next. */
    private static void nothingChanges() {
        AskedCourt x = Checks.court("fact f;fact g;person a 0 1 0;person b 5 2 0;person c 9 4 1;knows b f;knows c g;knows a g;ask p plain none none f;ask q back g none f;"
                + "talk a b p;seed 9;");
        String before = Checks.told(x);
        int[] all = {x.all(0), x.all(1), x.all(2)};
        for (int i = 0; i < 2; i++) {
            x.tried(0, 0);
            dueAll("35: what 0", x, all);
            x.tried(1, 0);
            dueAll("35: what 1", x, all);
            x.tried(2, 1);
            dueAll("35: what 2", x, all);
            x.tried(3, 0);
            dueAll("35: what 3", x, all);
            x.tried(4, 0);
            dueAll("35: what 4", x, all);
            x.away(0, 0);
            dueAll("16: away", x, all);
            x.hint(2, 0, 0);
            dueAll("18: hint", x, all);
            x.inRoom(2, 0);
            x.bestRoom(0);
            dueAll("21: bestRoom", x, all);
        }
        CHECKS.due("15 to 19", x.never(0, 0) + x.spread(0) + x.unasked(0) >= 0, true);
        CHECKS.dueSame("14 to 21, 35: nothing changes", Checks.told(x), before);
        x.chance(1, 0, 0);
        x.tried(0, 0);
        CHECKS.due("10: behind these one lets slip by the first number of the seed", x.ask(0, 1, 0),
                50 > (9L * 1103515245L + 12345L) % 2147483648L / 65536 % 100 ? 1 : 0);
    }

    private static void dueAll(String what, AskedCourt x, int[] all) {
        for (int person = 0; person < 3; person++) {
            CHECKS.due(what + " and then ALL of PERSON " + person, x.all(person), all[person]);
        }
        CHECKS.due(what + " and then can", x.can(0, 1, 0), 1);
        CHECKS.due(what + " and then slipped", x.slipped(1), 1);
        CHECKS.due(what + " and then behind", x.behind(1, 0), 3);
    }
}
