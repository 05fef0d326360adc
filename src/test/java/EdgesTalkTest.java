/** Promises 28 to 34, sentence by sentence: what lies at each edge that the document names, and right beyond it. */
public final class EdgesTalkTest {
    private static final Checks CHECKS = new Checks("EdgesTalkTest");
    private static final String FACTS = "fact fa;fact fb;fact fc;fact fd;fact fe;fact ff;fact fg;fact fh;";
    private static final String FIVE = "person a 0 0 0;person b 9 0 0;person c 9 0 0;person d 9 0 0;person e 9 0 0;";
    /** Ten of the TALK: a asks b, c, d, e one behind another; then what can't be asked, then b once more. */
    private static final String TEN = FACTS + FIVE + "knows b fa;knows c fb;knows d fc;knows e fd;ask p plain none none fa;ask q plain fa none fb;"
            + "ask r plain fb none fc;ask s plain fc none fd;ask t plain fh none fa;ask u idle none none fa;"
            + "talk a b p;talk a c q;talk a d r;talk a e s;talk a b t;talk a b u;talk a b p;talk b a p;talk a b p;talk e c q;nine 0;law hear 0;";

    public static void main(String[] args) {
        promise28();
        promise29();
        fromTheTextOn();
        asItGoes();
        promise30();
        promise30TwentyFour();
        promise31();
        promise31StrikesOfStrikes();
        promise32();
        promise32ByThoseToCome();
        promise33();
        promise33TheBitBehindAll();
        promise33FirstOfAll();
        promise34();
        promise34TenTimes();
        promise34HeldNow();
        noSuchOnes();
        nothingChanges();
        CHECKS.end();
    }

    /** "SLIPPED in the TALK; NONE: no such PERSON." */
    private static void promise28() {
        AskedCourt x = CHECKS.dueLines(TEN, 35);
        int[] due = {0, 3, 2, 1, 1};
        for (int person = 0; person < 5; person++) {
            CHECKS.due("28: PERSON " + person, x.slipped(person), due[person]);
        }
        x = Checks.court("fact f;person a 9 0 0;person b 9 0 0;knows b f;ask p plain none none f;");
        CHECKS.due("28: no TALK", x.slipped(1), 0);
        x.ask(0, 1, 0);
        CHECKS.due("28: what was LOST by call doesn't count", x.slipped(1), 0);
        StringBuilder talk = new StringBuilder("fact f;person a 0 0 0;person b 5 0 0;knows b f;ask p plain none none f;");
        for (int i = 0; i < 10; i++) {
            talk.append("talk a b p;");
        }
        CHECKS.due("28: all ten", Checks.court(talk.toString()).slipped(1), 10);
        CHECKS.due("28: nine doesn't matter", Checks.court(talk + "nine 0;").slipped(1), 10);
        CHECKS.due("28: 49 as it goes", Checks.court(talk + "law slip 49;").slipped(1), 0);
        CHECKS.due("28: 50 as it goes", Checks.court(talk + "law slip 50;").slipped(1), 10);
        CHECKS.due("28: lost goes on in it", Checks.court(talk + "law slip 100*(lost<7);").slipped(1), 7);
    }

    /** "BEHIND n of the TALK what a PERSON KNOWS (bits); NONE: no such ones, not so many." */
    private static void promise29() {
        AskedCourt x = Checks.court(TEN);
        int[] ofA = {0, 1, 3, 7, 15, 15, 15, 15, 15, 15, 15};
        int[] ofE = {8, 9, 11, 15, 15, 15, 15, 15, 15, 15, 15};
        for (int n = 0; n <= 10; n++) {
            CHECKS.due("29: a behind " + n, x.behind(n, 0), ofA[n]);
            CHECKS.due("29: e behind " + n, x.behind(n, 4), ofE[n]);
        }
        for (int n : new int[] {-1, 11, 12, -2, Integer.MIN_VALUE, Integer.MAX_VALUE}) {
            CHECKS.due("29: not so many: " + n, x.behind(n, 0), -1);
        }
        x = Checks.court("fact f;person a 0 0 0;person b 9 0 0;knows b f;ask p plain none none f;talk a b p;");
        CHECKS.due("29: one of one", x.behind(1, 0), 1);
        CHECKS.due("29: two of one", x.behind(2, 0), -1);
        x = Checks.court("fact f;fact g;person a 0 0 0;person b 9 0 0;knows b f;knows b g;ask q plain f none g;ask p plain none none f;talk a b q;talk a b p;law hear 0;");
        CHECKS.due("29: each once: q can't be asked yet", x.behind(2, 0), 1);
        CHECKS.due("28: each once", x.slipped(1), 1);
        x = Checks.court("fact f;fact g;person a 9 0 0;person b 9 0 0;person c 9 0 0;knows b f;knows c g;ask p plain f none g;talk c b p;talk b c p;");
        CHECKS.due("29: c can't ask it", x.behind(1, 0), 0);
        CHECKS.due("29: b can, the asked one hears", x.behind(2, 2), 3);
        CHECKS.due("28: c let slip, by b", x.slipped(2) * 10 + x.slipped(1), 10);
        x = Checks.court("fact f;person a 0 0 0;knows a f;");
        CHECKS.due("29: no TALK", x.behind(0, 0), 1);
        CHECKS.due("29: one of no TALK", x.behind(1, 0), -1);
    }

    /** "The TALK: from the TEXT on ... (what can't be asked isn't; nine doesn't matter)" */
    private static void fromTheTextOn() {
        String text = "fact f;fact g;person a 0 0 0;person b 9 0 0;person c 9 0 1;knows b f;knows c g;ask p plain none none f;ask q plain g none f;ask r plain none none g;"
                + "talk a c r;talk c a q;talk a b p;";
        AskedCourt x = Checks.court(text);
        CHECKS.due("29: another ROOM: it isn't asked", x.behind(1, 0), 0);
        CHECKS.due("29: the other way: it isn't asked", x.behind(2, 0), 0);
        CHECKS.due("29: the next is", x.behind(3, 0), 1);
        x.send(2, 0);
        x.send(1, 3);
        x.tell(0, 1);
        x.end();
        CHECKS.due("29: who goes later doesn't matter, nor who is told", x.behind(3, 0), 1);
        CHECKS.due("28: as it was in the TEXT", x.slipped(1), 1);
        CHECKS.due("28: c wasn't there", x.slipped(2), 0);
        x = Checks.court("fact f;person a 0 0 0;person b 9 0 0;knows b f;ask p plain none none f;talk a b p;law slip 100*(day=0)*(lost=0);");
        x.ask(0, 1, 0);
        x.end();
        x.keep();
        CHECKS.due("29: DAY 0, nobody LOST", x.behind(1, 0), 1);
    }

    /** "as it goes": no numbers, by all kinds. */
    private static void asItGoes() {
        for (int seed = 0; seed < 6; seed++) {
            AskedCourt x = Checks.court("fact f;fact g;person a 0 0 0;person b 5 0 0;person c 4 0 0;knows b f;knows c g;ask p plain none none f;ask q plain none none g;"
                    + "talk a b p;talk a c q;seed " + seed * 7777 + ";");
            CHECKS.due("29: LIPS 5 and LIPS 4, any seed", x.behind(2, 0), 1);
            CHECKS.due("28: LIPS 5", x.slipped(1), 1);
            CHECKS.due("28: LIPS 4", x.slipped(2), 0);
        }
    }

    /** "A NOTE: its number; NONE: no such ones, not so many, or there are 24." */
    private static void promise30() {
        AskedCourt x = Checks.court(TEN);
        for (int none : Checks.beyond(5)) {
            CHECKS.due("30: no such PERSON " + none, x.note(0, none, 0, true), -1);
        }
        for (int none : Checks.beyond(8)) {
            CHECKS.due("30: no such FACT " + none, x.note(0, 0, none, true), -1);
        }
        for (int none : Checks.beyond(11)) {
            CHECKS.due("30: not so many " + none, x.note(none, 0, 0, false), -1);
        }
        CHECKS.due("30: none of these is a NOTE", x.count(9), 0);
        CHECKS.due("30: behind 0", x.note(0, 4, 7, false), 0);
        CHECKS.due("30: behind 10", x.note(10, 0, 0, true), 1);
        CHECKS.due("30: the same once more", x.note(10, 0, 0, true), 2);
        CHECKS.due("30: what isn't so", x.note(10, 0, 0, false), 3);
        CHECKS.due("30: NOTES", x.count(9), 4);
        x = Checks.court("fact f;person a 0 0 0;person b 9 0 0;ask p idle none none none;talk a b p;");
        CHECKS.due("30: no more than there are", x.note(1, 0, 0, true), 0);
        CHECKS.due("30: more than there are", x.note(2, 0, 0, true), -1);
        x = Checks.court("fact f;person a 0 0 0;");
        CHECKS.due("30: no TALK: behind 0", x.note(0, 0, 0, true), 0);
        CHECKS.due("30: no TALK: behind 1", x.note(1, 0, 0, true), -1);
        CHECKS.due("30: no FACTS", Checks.court("person a 0 0 0;").note(0, 0, 0, true), -1);
    }

    /** "NOTES, at most 24, numbered from 0 on" */
    private static void promise30TwentyFour() {
        AskedCourt x = Checks.court(TEN);
        for (int i = 0; i < 24; i++) {
            boolean strikes = i % 3 == 2;
            CHECKS.due("30: number " + i, strikes ? x.strike(i - 1) : x.note(i % 11, i % 5, i % 8, i % 2 == 0), i);
        }
        CHECKS.due("30: there are 24", x.note(0, 0, 0, true), -1);
        CHECKS.due("31: there are 24", x.strike(0), -1);
        CHECKS.due("31: there are 24, of the last one", x.strike(23), -1);
        CHECKS.due("39: NOTES", x.count(9), 24);
        CHECKS.due("39: by all of them", x.count(10), 24);
        CHECKS.due("32: by 24", x.known(24), true);
        CHECKS.due("32: by 25", x.known(25), false);
        x.undo();
        x.end();
        x.keep();
        x.back();
        CHECKS.due("30: they stay", x.count(9), 24);
        CHECKS.due("30: there are 24 still", x.note(0, 0, 0, true), -1);
        x = Checks.court(TEN);
        for (int i = 0; i < 24; i++) {
            CHECKS.due("30: NOTES alone " + i, x.note(0, 0, 0, false), i);
        }
        CHECKS.due("31: no room for a STRIKE", x.strike(0), -1);
        CHECKS.due("33: all 24 are so", x.knew(0), 511 - 1);
        x = Checks.court(TEN);
        x.note(0, 0, 0, true);
        for (int i = 1; i < 24; i++) {
            CHECKS.due("31: STRIKES alone " + i, x.strike(i - 1), i);
        }
        CHECKS.due("31: there are 24 by STRIKES", x.strike(0), -1);
        CHECKS.due("33: the 23rd STRIKE counts, the NOTE is STRUCK", x.knew(0), 511);
        CHECKS.due("32: by 23", x.known(23), true);
        CHECKS.due("33: the 22nd STRIKE is the last: the NOTE stands", x.knew(0), 1);
    }

    /** "A STRIKE: its number; NONE: no such NOTE, or there are 24." */
    private static void promise31() {
        AskedCourt x = Checks.court(TEN);
        CHECKS.due("31: no NOTES", x.strike(0), -1);
        CHECKS.due("31: no NOTES, -1", x.strike(-1), -1);
        x.note(0, 0, 7, true);
        for (int none : Checks.beyond(1)) {
            CHECKS.due("31: no such NOTE " + none, x.strike(none), -1);
        }
        CHECKS.due("31: none of these is a NOTE", x.count(9), 1);
        CHECKS.due("31: its number", x.strike(0), 1);
        CHECKS.due("31: itself isn't there yet", x.strike(2), -1);
        CHECKS.due("31: the same once more", x.strike(0), 2);
        CHECKS.due("31: a STRIKE of a STRIKE", x.strike(2), 3);
        CHECKS.due("31: NOTES", x.count(9), 4);
        CHECKS.due("33: the first STRIKE stands", x.knew(0), 511);
        CHECKS.due("31: that one, too", x.strike(1), 4);
        CHECKS.due("33: no STRIKE of the NOTE stands", x.knew(0), 128);
        x.known(1);
        CHECKS.due("31: of one that isn't among those it is KNOWN by", x.strike(4), 5);
    }

    /** "(a STRIKE may be STRUCK: then it doesn't count; asked from the last one on)" */
    private static void promise31StrikesOfStrikes() {
        AskedCourt x = Checks.court("fact f;fact g;person a 0 0 0;knows a f;");
        x.note(0, 0, 0, false);
        CHECKS.due("33: that can't be", x.knew(0), 0);
        x.strike(0);
        CHECKS.due("33: STRUCK", x.knew(0), 7);
        x.strike(1);
        CHECKS.due("33: the STRIKE is STRUCK", x.knew(0), 0);
        x.strike(2);
        CHECKS.due("33: the STRIKE of it is STRUCK", x.knew(0), 7);
        x.strike(1);
        CHECKS.due("33: the first STRIKE is STRUCK by another one", x.knew(0), 0);
        x.strike(4);
        x.strike(5);
        CHECKS.due("33: the sixth STRIKES the fifth, which doesn't count then", x.knew(0), 0);
        int[] by = {7, 0, 7, 0, 7, 0, 7, 0};
        for (int n = 0; n <= 7; n++) {
            CHECKS.due("32: by " + n, x.known(n), true);
            CHECKS.due("33: by " + n, x.knew(0), by[n]);
        }
    }

    /** "KNOWN by n from now on (-1: by all, also those to come): true; false: no such n." */
    private static void promise32() {
        AskedCourt x = Checks.court(TEN);
        CHECKS.due("32: by none of none", x.known(0), true);
        CHECKS.due("32: by all of none", x.known(-1), true);
        for (int none : Checks.beyond(2)) {
            CHECKS.due("32: no such n " + none, x.known(none), none == -1);
        }
        CHECKS.due("32: by one of none", x.known(1), false);
        x.note(0, 0, 7, true);
        x.note(0, 0, 6, true);
        CHECKS.due("32: by one", x.known(1), true);
        CHECKS.due("33: the first alone", x.knew(0), 128);
        for (int none : new int[] {3, 4, 24, 25, -2, -3, Integer.MIN_VALUE, Integer.MAX_VALUE}) {
            CHECKS.due("32: no such n " + none, x.known(none), false);
            CHECKS.due("32: by one still", x.count(10), 1);
        }
        CHECKS.due("33: by one still", x.knew(0), 128);
        CHECKS.due("32: by two", x.known(2), true);
        CHECKS.due("33: both can't be", x.knew(0), 0);
        CHECKS.due("32: by none", x.known(0), true);
        CHECKS.due("33: by none all may be", x.knew(0), 511);
    }

    private static void promise32ByThoseToCome() {
        AskedCourt x = Checks.court(TEN);
        x.note(0, 0, 7, true);
        x.known(1);
        x.note(0, 0, 6, true);
        CHECKS.due("32: by one, not by those to come", x.knew(0), 128);
        CHECKS.due("39: by one", x.count(10), 1);
        CHECKS.due("39: of two", x.count(9), 2);
        x.known(-1);
        CHECKS.due("32: by all", x.knew(0), 0);
        CHECKS.due("39: by two", x.count(10), 2);
        x.strike(1);
        CHECKS.due("32: also by those to come", x.knew(0), 128);
        CHECKS.due("39: by three", x.count(10), 3);
        x.known(0);
        x.strike(0);
        CHECKS.due("32: by none, not by those to come", x.knew(0), 511);
        CHECKS.due("39: by none", x.count(10), 0);
        x.known(3);
        CHECKS.due("32: by three, of four", x.knew(0), 128);
        x.known(4);
        CHECKS.due("32: by four", x.knew(0), 511);
    }

    /** "FACTS ... one of which a PERSON may have known beforehand, too, by which all KNOWN notes are so." */
    private static void promise33() {
        AskedCourt x = Checks.court(TEN);
        for (int person = 0; person < 5; person++) {
            CHECKS.due("33: without NOTES, PERSON " + person, x.knew(person), 511);
        }
        x.note(0, 4, 7, true);
        CHECKS.due("33: e knew the last FACT", x.knew(4), 128);
        CHECKS.due("33: nobody else can have told it", x.knew(0), 0);
        x.note(10, 4, 7, true);
        CHECKS.due("33: and knows it later", x.knew(4), 128);
        x.note(10, 4, 7, false);
        CHECKS.due("33: what is known stays so", x.knew(4), 0);
        x = Checks.court(TEN);
        x.note(1, 0, 0, false);
        CHECKS.due("33: b lets it slip whatever one knew", x.knew(0), 0);
        x = Checks.court(TEN);
        x.note(4, 4, 0, true);
        x.note(0, 4, 0, false);
        CHECKS.due("33: e didn't know it beforehand", x.knew(4), 510);
        CHECKS.due("33: of others nothing is said", x.knew(3), 511);
        x = Checks.court("fact f;fact g;fact h;person a 0 0 0;person b 9 0 0;person c 0 0 0;knows a f;ask p plain g none h;talk a b p;law hear 0;");
        x.note(1, 2, 2, true);
        CHECKS.due("33: by one FACT of a alone it can't be", x.knew(0), 0);
        CHECKS.due("33: nor of b", x.knew(1), 0);
        CHECKS.due("33: c knew it", x.knew(2), 4);
        x.tell(0, 1);
        x.tell(1, 2);
        CHECKS.due("33: what is told now isn't beforehand", x.knew(0), 0);
    }

    /** "(bits; the bit behind all: none more)" */
    private static void promise33TheBitBehindAll() {
        AskedCourt x = Checks.court("person a 0 0 0;");
        CHECKS.due("33: no FACTS: none more", x.knew(0), 1);
        x = Checks.court("fact f;person a 0 0 0;person b 0 0 0;knows a f;");
        CHECKS.due("33: one FACT", x.knew(0), 3);
        x.note(0, 0, 0, true);
        CHECKS.due("33: what it knows by the TEXT is as none more", x.knew(0), 3);
        CHECKS.due("33: b may have known it", x.knew(1), 3);
        x.note(0, 1, 0, false);
        CHECKS.due("33: b may not", x.knew(1), 2);
        x.strike(1);
        x.note(0, 1, 0, true);
        CHECKS.due("33: b did", x.knew(1), 1);
        CHECKS.due("33: by a it can't be", x.knew(0), 0);
        x = Checks.court(FACTS + FIVE);
        x.note(0, 2, 7, false);
        x.note(0, 2, 0, false);
        CHECKS.due("33: neither the first nor the last of eight", x.knew(2), 511 - 128 - 1);
    }

    private static void promise33FirstOfAll() {
        AskedCourt x = Checks.court("fact f;fact g;person a 0 0 0;person b 5 0 0;person c 0 0 0;knows b f;ask p plain none none f;talk a b p;talk c a p;talk a b p;"
                + "law slip 50*heard;");
        x.note(0, 0, 0, false);
        x.note(1, 0, 0, true);
        CHECKS.due("33: each NOTE behind its own", x.knew(0), 6);
        x.note(3, 2, 0, true);
        x.note(2, 2, 1, false);
        CHECKS.due("33: c", x.knew(2), 1 + 4);
        x.note(0, 2, 0, false);
        CHECKS.due("33: c, none more", x.knew(2), 4);
        x = Checks.court("fact f;fact g;person a 0 0 0;person b 0 0 0;knows b f;knows b g;ask p double none none f;ask q plain none none g;talk a b p;talk a b q;"
                + "law slip 50*kind+50*(lost>1);");
        x.note(2, 0, 1, false);
        CHECKS.due("33: each of the TALK is asked once", x.knew(0), 5);
        x = Checks.court("fact f;fact g;person a 0 0 0;person b 0 0 0;knows b f;ask p plain none none f;talk a b p;law slip 100*(heard=1);");
        x.note(1, 0, 0, true);
        CHECKS.due("33: none more is nothing heard", x.knew(1), 5);
        x = Checks.court("fact f;fact g;person a 0 0 0;person b 9 0 0;knows b f;knows b g;ask p plain none none f;ask q plain none none g;talk a b p;talk a b q;");
        x.note(1, 0, 1, false);
        x.note(2, 0, 1, true);
        CHECKS.due("33: behind one not yet, behind two", x.knew(0), 5);
    }

    private static long next(long number) {
        return (number * 1103515245L + 12345L) % 2147483648L;
    }

    private static int times(long seed, int slip) {
        long number = seed;
        int times = 0;
        for (int i = 0; i < 10; i++) {
            number = next(number);
            times += slip > number / 65536 % 100 ? 1 : 0;
        }
        return times;
    }

    /** "numbers from a seed 0 .. 2147483647 on"; "NONE: no such ones." */
    private static void promise34() {
        AskedCourt x = Checks.court("fact f;person a 0 0 0;person b 5 0 0;knows b f;ask p plain none none f;talk a b p;seed 3;");
        for (int seed : new int[] {0, 1, 99999, 100000, 65535, 65536, 1103515245, 2147483646, 2147483647}) {
            CHECKS.due("34: seed " + seed, x.chance(seed, 0, 0), times(seed, 50));
        }
        for (int seed : new int[] {-1, -2, Integer.MIN_VALUE, Integer.MIN_VALUE + 1}) {
            CHECKS.due("34: no such seed " + seed, x.chance(seed, 0, 0), -1);
        }
        for (int none : Checks.beyond(2)) {
            CHECKS.due("34: no such PERSON " + none, x.chance(0, none, 0), -1);
        }
        for (int none : Checks.beyond(1)) {
            CHECKS.due("34: no such FACT " + none, x.chance(0, 0, none), -1);
        }
    }

    /** "In how many of ten times drawn (... one behind another)" */
    private static void promise34TenTimes() {
        String text = "fact f;fact g;person a 0 0 0;person b 5 0 0;person c 5 0 0;knows b f;ask p plain none none f;ask n plain none none g;";
        AskedCourt x = Checks.court(text + "talk a b p;law slip 100;");
        CHECKS.due("34: ten of ten", x.chance(1, 0, 0), 10);
        x = Checks.court(text + "talk a b p;law slip 0;");
        CHECKS.due("34: none of ten", x.chance(1, 0, 0), 0);
        CHECKS.due("34: KNOWN already: ten of ten", x.chance(1, 1, 0), 10);
        x = Checks.court(text);
        CHECKS.due("34: no TALK", x.chance(1, 0, 0), 0);
        CHECKS.due("34: no TALK, KNOWN", x.chance(1, 1, 0), 10);
        for (int slip : new int[] {1, 10, 33, 50, 66, 99}) {
            x = Checks.court(text + "talk a b n;talk a b p;talk b a n;nine 0;law slip " + slip + ";");
            for (int seed = 0; seed < 12; seed++) {
                CHECKS.due("34: slip " + slip + ", seed " + seed, x.chance(seed * 17777777, 2, 0), times(seed * 17777777, slip));
            }
        }
        x = Checks.court(text + "talk a b p;talk c b p;law slip 30;");
        for (int seed = 0; seed < 12; seed++) {
            long number = seed;
            int due = 0;
            for (int i = 0; i < 10; i++) {
                boolean known = false;
                for (int k = 0; k < 2; k++) {
                    number = next(number);
                    known |= 30 > number / 65536 % 100;
                }
                due += known ? 1 : 0;
            }
            CHECKS.due("34: two numbers each time, seed " + seed, x.chance(seed, 0, 0), due);
        }
        x = Checks.court(text + "talk a b p;law slip 100*lost+50;");
        CHECKS.due("34: each time begins anew", x.chance(4, 0, 0), times(4, 50));
    }

    /** "if the TALK is held now, with numbers (what can't be asked isn't; nine doesn't matter)" */
    private static void promise34HeldNow() {
        String text = "fact f;fact g;person a 0 0 0;person b 9 0 0;person c 0 0 1;knows b f;ask p plain none none f;ask q plain g none f;talk a b q;law slip 100*(day=2);nine 1;";
        AskedCourt x = Checks.court(text);
        CHECKS.due("34: it can't be asked", x.chance(7, 0, 0), 0);
        x.tell(0, 1);
        CHECKS.due("34: on DAY 0", x.chance(7, 0, 0), 0);
        x.end();
        x.end();
        CHECKS.due("34: on DAY 2", x.chance(7, 0, 0), 10);
        x.ask(0, 1, 1);
        CHECKS.due("34: nine are asked", x.can(0, 1, 1), 0);
        CHECKS.due("34: c is elsewhere", x.chance(7, 2, 0), 0);
        x.send(2, 0);
        CHECKS.due("34: nine doesn't matter; c is there", x.chance(7, 2, 0), 10);
        x.send(1, 1);
        CHECKS.due("34: b is gone", x.chance(7, 2, 0), 0);
        CHECKS.due("34: a KNOWS it by now", x.chance(7, 0, 0), 10);
        x = Checks.court("fact f;person a 0 0 0;person b 0 0 0;knows b f;ask p plain none none f;talk a b p;law slip 100*(lost=1)+100*(day=1);");
        CHECKS.due("34: nobody LOST yet", x.chance(7, 0, 0), 0);
        x.end();
        x.ask(0, 1, 0);
        x.end();
        CHECKS.due("34: b LOST by call", x.slipped(1), 0);
        CHECKS.due("34: KNOWN by call", x.chance(7, 0, 0), 10);
    }

    private static void noSuchOnes() {
        AskedCourt x = Checks.court(TEN);
        for (int none : Checks.beyond(5)) {
            CHECKS.due("28: no such PERSON " + none, x.slipped(none), -1);
            CHECKS.due("29: no such PERSON " + none, x.behind(0, none), -1);
            CHECKS.due("33: no such PERSON " + none, x.knew(none), -1);
        }
    }

    private static void nothingChanges() {
        AskedCourt x = Checks.court("fact f;person a 0 0 0;person b 5 0 0;knows b f;ask p plain none none f;talk a b p;talk a b p;seed 12;");
        x.note(1, 0, 0, true);
        String before = Checks.told(x);
        x.slipped(1);
        x.behind(2, 0);
        x.knew(0);
        x.chance(5, 0, 0);
        CHECKS.dueSame("28, 29, 33, 34: nothing changes", Checks.told(x), before);
        CHECKS.due("28, 29, 33, 34: no number is gone", x.ask(0, 1, 0), 50 > next(12) / 65536 % 100 ? 1 : 0);
        x.tried(4, 0);
        CHECKS.due("28: as ever behind what was tried", x.slipped(1), 2);
        x.tried(3, 0);
        CHECKS.due("29: as ever behind what was tried", x.behind(2, 0), 1);
        x.tried(2, 1);
        CHECKS.due("33: as ever behind what was tried", x.knew(0), 3);
        x.tried(0, 0);
        CHECKS.due("34: as ever behind what was tried", x.chance(5, 1, 0), 10);
    }
}
