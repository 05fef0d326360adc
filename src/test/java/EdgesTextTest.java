/** Promises 1 to 5, sentence by sentence: what lies at each edge that the document names, and right beyond it. */
public final class EdgesTextTest {
    private static final Checks CHECKS = new Checks("EdgesTextTest");
    private static final int BLANKS = 0x20202020;
    private static final String[] LANGUAGE = {"fact", "person", "knows", "ask", "talk", "nine", "seed", "law", "plain", "double",
        "back", "idle", "none", "slip", "hear", "or", "and", "not", "lips", "wit", "lost", "heard", "room", "kind", "day"};
    private static final String TWO = "person a 0 0 0;person b 0 0 0;";

    public static void main(String[] args) {
        promise1();
        promise2();
        promise2BytesOfEachNumber();
        promise3HowManyBytes();
        promise3AllBegins();
        promise3AllBeginsWithoutLines();
        promise3AllStays();
        promise3ManyTexts();
        promise4();
        promise5();
        words();
        signsThatBelongTogether();
        numbers();
        moreMustCome();
        tooMuch();
        tooManyKnots();
        tooManyOpen();
        toldAlready();
        notToldAhead();
        asksOneself();
        ofOnePlaceTheLeast();
        whereNotMayStand();
        CHECKS.end();
    }

    /** "A TEXT without LINES; an empty TAPE." */
    private static void promise1() {
        AskedCourt x = new AskedCourt();
        CHECKS.due("1: an empty TAPE", x.text(1), -2);
        for (int what = 0; what < 12; what++) {
            CHECKS.due("1: count(" + what + ")", x.count(what), 0);
        }
        for (int what = 0; what < 3; what++) {
            CHECKS.due("1: named(" + what + ")", x.named(what, Checks.letters("a")), -1);
            CHECKS.due("1: named(" + what + ") by no letters", x.named(what, 0), -1);
        }
        CHECKS.dueThrown("1: person", x, 0, 0, 1);
        CHECKS.due("1: question", x.question(0, 0), -2);
        CHECKS.due("1: law", x.law(0, 0, 0), Long.MIN_VALUE);
        CHECKS.due("1: tell", x.tell(0, 0), false);
        CHECKS.due("1: send", x.send(0, 1), false);
        int[] none = {x.can(0, 1, 0), x.ask(0, 1, 0), x.all(0), x.never(0, 0), x.away(0, 0), x.spread(0), x.hint(0, 0, 0),
            x.unasked(0), x.inRoom(0, 0), x.bestRoom(0), x.way(0, 0, 0, 1), x.step(0, 0, 0, 1, 0), x.care(0),
            x.best(0, 1, 0), x.rests(0, 1), x.rest(0, 1, 0), x.slipped(0), x.behind(0, 0), x.note(0, 0, 0, true),
            x.strike(0), x.knew(0), x.chance(0, 0, 0), x.tried(2, 0), x.tried(3, 0), x.undo(), x.back()};
        for (int i = 0; i < none.length; i++) {
            CHECKS.due("1: there are no such ones, the call " + i, none[i], -1);
        }
        CHECKS.due("1: nobody knows anything", x.tried(0, 0) + x.tried(1, 0) + x.tried(4, 0), 0);
        CHECKS.due("1: known(0)", x.known(0), true);
        CHECKS.due("1: no FAULT", x.fault(0), 0);
        CHECKS.due("1: no place", x.fault(1), -1);
        CHECKS.due("1: the TAPE has twenty then", x.feed(0, 0, 0, 0, 0), 20);
        CHECKS.due("1: text(0) of a new object", new AskedCourt().text(0), 0);
    }

    /** "how many it has; NONE, and none come, if it would have more than 700." */
    private static void promise2() {
        AskedCourt x = new AskedCourt();
        for (int i = 1; i <= 34; i++) {
            CHECKS.due("2: how many it has", x.feed(BLANKS, BLANKS, BLANKS, BLANKS, BLANKS), 20 * i);
        }
        // "fact f;" ends at the byte 699
        CHECKS.due("2: 700 are not more than 700", x.feed(BLANKS, BLANKS, BLANKS, 0x20666163, 0x7420663b), 700);
        CHECKS.due("2: 720 are", x.feed(0x66616374, 0x20673b20, BLANKS, BLANKS, BLANKS), -1);
        CHECKS.due("2: and still", x.feed(0x66616374, 0x20673b20, BLANKS, BLANKS, BLANKS), -1);
        CHECKS.due("2: none came", x.text(701), -2);
        CHECKS.due("2: the 700 are as they were", x.text(700), 1);
        CHECKS.due("2: the LINE at the end of them", x.named(0, Checks.letters("f")), 0);
        CHECKS.due("2: an empty TAPE takes twenty again", x.feed(BLANKS, BLANKS, BLANKS, BLANKS, BLANKS), 20);
    }

    /** "Twenty bytes come behind the TAPE, four of each number, the highest first" */
    private static void promise2BytesOfEachNumber() {
        AskedCourt x = new AskedCourt();
        CHECKS.due("2: twenty bytes", x.feed(0x66616374, 0x20616263, 0x6465663b, 0x66616374, 0x20757677), 20);
        CHECKS.due("2: twenty more come behind", x.feed(0x78797a3b, 0x0a0a0a0a, BLANKS, BLANKS, 0x2020200a), 40);
        CHECKS.due("2: forty bytes in their order", x.text(40), 2);
        CHECKS.due("2: abcdef", x.named(0, Checks.letters("abcdef")), 0);
        CHECKS.due("2: uvwxyz", x.named(0, Checks.letters("uvwxyz")), 1);
        int[] odd = {0x80202020, 0x2080ff20, 0x202020ff, -1, Integer.MIN_VALUE};
        int[] places = {0, 1, 3, 0, 0};
        for (int i = 0; i < odd.length; i++) {
            x.feed(odd[i], BLANKS, BLANKS, BLANKS, BLANKS);
            CHECKS.due("2: a byte above 127 is none of a TEXT", x.text(20), -1);
            CHECKS.due("2: where it is", x.fault(1), places[i]);
        }
        for (int number = 0; number < 5; number++) {
            int[] five = {BLANKS, BLANKS, BLANKS, BLANKS, BLANKS};
            for (int shift = 24; shift >= 0; shift -= 8) {
                five[number] = BLANKS | 0x1f << shift;
                x.feed(five[0], five[1], five[2], five[3], five[4]);
                x.text(20);
                CHECKS.due("2: number " + number + " by " + shift, x.fault(1), 4 * number + 3 - shift / 8);
            }
        }
    }

    /** "-2, and the TAPE stays: there are not so many, n is below 0" */
    private static void promise3HowManyBytes() {
        AskedCourt x = new AskedCourt();
        for (int n : new int[] {1, 20, 700, 701, Integer.MAX_VALUE, -1, -20, Integer.MIN_VALUE}) {
            CHECKS.due("3: of an empty TAPE text(" + n + ")", x.text(n), -2);
        }
        Checks.feed(x, "fact f;fact g;A");
        for (int n : new int[] {21, 22, 700, Integer.MAX_VALUE, -1, Integer.MIN_VALUE}) {
            CHECKS.due("3: of twenty bytes text(" + n + ")", x.text(n), -2);
        }
        CHECKS.due("3: -2 is no FAULT", x.fault(0), 0);
        CHECKS.due("3: nothing is told by -2", x.count(0), 0);
        CHECKS.due("3: the TAPE stays, the first bytes are the TEXT", x.text(14), 2);
        CHECKS.due("3: it is empty then", x.text(1), -2);
        CHECKS.due("3: none is left of what stood behind", x.feed(BLANKS, BLANKS, BLANKS, BLANKS, BLANKS), 20);
        CHECKS.due("3: all twenty", x.text(20), 0);
        Checks.feed(x, "fact f;fact g;A");
        CHECKS.due("3: one more byte", x.text(15), -1);
        CHECKS.due("3: it is empty with a FAULT, too", x.text(1), -2);
        Checks.feed(x, "fact f;fact g;");
        CHECKS.due("3: a LINE cut off", x.text(13), -1);
        CHECKS.due("3: more must come", x.fault(0), 1);
        CHECKS.due("3: at the length", x.fault(1), 13);
        Checks.feed(x, "fact abc;");
        CHECKS.due("3: a name cut off", x.text(7), -1);
        CHECKS.due("3: at the length, in a word", x.fault(1), 7);
        Checks.feed(x, "fact f;fact g;");
        CHECKS.due("3: no bytes at all", x.text(0), 0);
        CHECKS.due("3: the TAPE is empty by text(0), too", x.text(1), -2);
        Checks.feed(x, "fact f;nine 123;");
        CHECKS.due("3: what stands behind n isn't read", x.text(7) == 1 && x.count(0) == 1, true);
        Checks.feed(x, "nine 100;");
        CHECKS.due("3: a number cut off", x.text(7), -1);
        CHECKS.due("3: it is another one, more must come", x.fault(0), 1);
        CHECKS.due("3: at the length, in a number", x.fault(1), 7);
        Checks.feed(x, "law hear 1 <= 2;");
        CHECKS.due("3: a sign cut off", x.text(12), -1);
        CHECKS.due("3: more must come behind <", x.fault(1), 12);
    }

    private static AskedCourt lived() {
        AskedCourt x = Checks.court("fact f;fact g;person a 1 2 0;person b 9 4 0;knows b f;ask p plain none none f;ask q double f g none;"
                + "talk a b p;nine 2;seed 5;law slip 100;law hear wit;");
        x.end();
        x.keep();
        x.ask(0, 1, 0);
        x.tell(0, 1);
        x.send(1, 2);
        x.note(1, 0, 0, true);
        x.note(0, 0, 0, false);
        x.known(1);
        return x;
    }

    /** "(DAY 0, nothing asked, no NOTES, all KNOWN, no IMAGE, nothing to undo then)" */
    private static void promise3AllBegins() {
        AskedCourt x = lived();
        String text = "fact f;person a 1 2 0;person b 9 4 1;knows a f;ask p plain none none f;talk a b p;";
        CHECKS.due("3: another TEXT", Checks.tell(x, text), 6);
        CHECKS.due("3: DAY 0", x.count(5), 0);
        CHECKS.due("3: nothing asked in all", x.count(8), 0);
        CHECKS.due("3: nothing asked this DAY", x.person(0, 5), 0);
        CHECKS.due("3: nobody LOST", x.count(7), 0);
        CHECKS.due("3: KNOWN is what the TEXT tells", x.person(0, 3), 1);
        CHECKS.due("3: KNOWN to another one", x.person(1, 3), 0);
        CHECKS.due("3: in the ROOM of the TEXT", x.person(1, 2), 1);
        CHECKS.due("3: no NOTES", x.count(9), 0);
        CHECKS.due("3: by none of them", x.count(10), 0);
        CHECKS.due("3: no NOTE to strike", x.strike(0), -1);
        CHECKS.due("3: nothing to undo", x.count(11), 0);
        CHECKS.due("3: undo", x.undo(), -1);
        CHECKS.due("3: no IMAGE", x.back(), -1);
        CHECKS.due("3: NOTES are numbered from 0 on", x.note(0, 1, 0, true), 0);
        CHECKS.due("3: a second", x.note(0, 0, 0, false), 1);
        CHECKS.due("3: all KNOWN", x.count(10), 2);
        CHECKS.due("3: all of them count", x.knew(1), 0);
        CHECKS.due("3: nine without", x.send(1, 0), true);
        for (int i = 0; i < 9; i++) {
            CHECKS.due("3: nine is told by none any more", x.ask(0, 1, 0), 0);
        }
        CHECKS.due("3: the tenth", x.ask(0, 1, 0), -2);
        CHECKS.due("3: no law of slip", x.law(0, 0, 0), Long.MIN_VALUE);
        CHECKS.due("3: no law of hear", x.law(1, 0, 0), Long.MIN_VALUE);
        CHECKS.due("3: no KNOTS", x.count(4), 0);
        CHECKS.due("3: the names of that TEXT are gone", x.named(0, Checks.letters("g")), -1);
    }

    /** The same, by a TEXT of no bytes and by one of blanks. */
    private static void promise3AllBeginsWithoutLines() {
        String[] texts = {"", " \n  \n"};
        for (String text : texts) {
            AskedCourt x = lived();
            CHECKS.due("3: no LINES", Checks.tell(x, text), 0);
            for (int what = 0; what < 12; what++) {
                CHECKS.due("3: without LINES count(" + what + ")", x.count(what), 0);
            }
            CHECKS.due("3: without LINES back", x.back(), -1);
            CHECKS.due("3: without LINES undo", x.undo(), -1);
            CHECKS.dueThrown("3: without LINES person", x, 0, 0, 1);
            CHECKS.due("3: without LINES question", x.question(0, 0), -2);
            CHECKS.due("3: without LINES named", x.named(0, Checks.letters("f")), -1);
        }
    }

    /** "NONE with a FAULT, all stays" */
    private static void promise3AllStays() {
        String[] wrong = {"fact h;person c 0 0 0;nine 7;seed 1;law slip 1;law hear 2;ask r plain none none h;A", "fact h;fact h;",
            "law slip ((1+2", "person x 1 1 1;person y 1 1 1;ask r idle none none none;talk x y r;talk x x r;", "nine 100;", ";"};
        for (String text : wrong) {
            AskedCourt x = lived();
            String before = Checks.told(x);
            CHECKS.due("3: a FAULT in '" + text + "'", Checks.tell(x, text), -1);
            CHECKS.dueSame("3: all stays by '" + text + "'", Checks.told(x), before);
            CHECKS.due("3: the names stay", x.named(0, Checks.letters("g")), 1);
            CHECKS.due("3: no others come", x.named(0, Checks.letters("h")), -1);
            CHECKS.due("3: the TALK stays", x.slipped(1), 1);
            CHECKS.due("3: what can be undone stays", x.undo(), 3);
            CHECKS.due("3: the ROOM ahead of it", x.person(1, 2), 0);
            CHECKS.due("3: nine stays", x.ask(0, 1, 0), 1);
            CHECKS.due("3: that were two", x.ask(0, 1, 0), -2);
            CHECKS.due("3: the IMAGE stays", x.back(), 1);
            CHECKS.due("3: as it was kept", x.person(0, 3), 0);
        }
    }

    /** Nothing of a TEXT, with a FAULT or without, is left in those that come later. */
    private static void promise3ManyTexts() {
        AskedCourt x = new AskedCourt();
        String full = "fact f;person a 5 0 0;person b 5 0 0;knows b f;ask p plain none none f;talk a b p;nine 1;seed 77;law slip 9;law hear 8;";
        for (int i = 0; i < 3; i++) {
            CHECKS.due("3: all LINES again", Checks.tell(x, full), 10);
        }
        CHECKS.due("3: one of the TALK", x.count(3), 1);
        CHECKS.due("3: two KNOTS", x.count(4), 2);
        CHECKS.due("3: law slip", x.law(0, 0, 0), 9);
        CHECKS.due("3: law hear", x.law(1, 0, 0), 8);
        for (String wrong : new String[] {full + "A", "law hear 1+(((((2*3", "law slip not not not 1+1<1<", "law hear not", "nine 1;seed 1;nine"}) {
            for (int i = 0; i < 2; i++) {
                CHECKS.due("3: a FAULT", Checks.tell(x, wrong), -1);
            }
            Checks.tell(x, "person a 0 0 0;ask p idle none none none;law hear 2+3*4;");
            CHECKS.due("3: right behind a FAULT", x.law(1, 0, 0), 14);
            CHECKS.due("3: a FAULT", Checks.tell(x, wrong), -1);
            CHECKS.due("3: eight may be open, 64 KNOTS may be", Checks.tell(x, "law hear ((((((((2+3))))))))*4" + "+1".repeat(29) + ";"), 1);
            CHECKS.due("3: 63 KNOTS", x.count(4), 63);
            CHECKS.due("3: only that law", Checks.tell(x, "person a 0 0 0;ask p idle none none none;law hear 2+3;"), 3);
            CHECKS.due("3: its value", x.law(1, 0, 0), 5);
            CHECKS.due("3: no law of slip", x.law(0, 0, 0), Long.MIN_VALUE);
        }
        CHECKS.due("3: all LINES once more", Checks.tell(x, full), 10);
        Checks.tell(x, "fact f;person a 5 0 0;person b 5 0 0;knows b f;ask p plain none none f;");
        CHECKS.due("3: no TALK", x.count(3), 0);
        long number = 0;
        for (int i = 0; i < 9; i++) {
            number = (number * 1103515245L + 12345L) % 2147483648L;
            CHECKS.due("3: seed 0 again, nine 9 again", x.ask(0, 1, 0), 50 > number / 65536 % 100 ? 1 : 0);
        }
        CHECKS.due("3: nine were asked", x.can(0, 1, 0), 0);
        Checks.tell(x, "fact f;person a 5 0 0;person b 5 0 0;");
        CHECKS.due("3: who knew it in another TEXT", x.person(1, 3), 0);
    }

    /** "Of the latest text() that was not -2 ... NONE for another what." */
    private static void promise4() {
        AskedCourt x = new AskedCourt();
        CHECKS.due("4: no text() yet", x.fault(0), 0);
        CHECKS.due("4: no place yet", x.fault(1), -1);
        Checks.tell(x, "fact f;fact f;");
        CHECKS.due("4: its FAULT", x.fault(0), 3);
        CHECKS.due("4: its place", x.fault(1), 12);
        CHECKS.due("4: text() of -2", x.text(1), -2);
        CHECKS.due("4: text() of -2, n below 0", x.text(-1), -2);
        CHECKS.due("4: the FAULT ahead of it", x.fault(0), 3);
        CHECKS.due("4: the place ahead of it", x.fault(1), 12);
        Checks.tell(x, ";");
        CHECKS.due("4: the latest one", x.fault(0), 1);
        CHECKS.due("4: place 0", x.fault(1), 0);
        for (int what : new int[] {-1, 2, 3, Integer.MIN_VALUE, Integer.MAX_VALUE}) {
            CHECKS.due("4: fault(" + what + ")", x.fault(what), -1);
        }
        CHECKS.due("4: a good one", x.text(0), 0);
        CHECKS.due("4: no FAULT", x.fault(0), 0);
        CHECKS.due("4: NONE without", x.fault(1), -1);
        for (int what : new int[] {-1, 2, Integer.MIN_VALUE, Integer.MAX_VALUE}) {
            CHECKS.due("4: without, fault(" + what + ")", x.fault(what), -1);
        }
    }

    /** "5 bits each (a is 1; the first one highest of six, 0 behind the last one); NONE: there is none such." */
    private static void promise5() {
        AskedCourt x = CHECKS.dueLines("fact a;fact z;fact zzzzzz;fact ab;fact b;fact aaaaaa;fact aaaaa;fact ba;"
                + "person a 0 0 0;person b 0 0 0;person z 0 0 0;person ab 0 0 0;person e 0 0 0;ask z idle none none none;ask a idle none none none;", 15);
        String[] facts = {"a", "z", "zzzzzz", "ab", "b", "aaaaaa", "aaaaa", "ba"};
        for (int fact = 0; fact < 8; fact++) {
            CHECKS.due("5: FACT " + facts[fact], x.named(0, Checks.letters(facts[fact])), fact);
        }
        CHECKS.due("5: a is 1, highest of six", x.named(0, 1 << 25), 0);
        CHECKS.due("5: zzzzzz is all of it", x.named(0, 26 << 25 | 26 << 20 | 26 << 15 | 26 << 10 | 26 << 5 | 26), 2);
        CHECKS.due("5: the fifth PERSON", x.named(1, Checks.letters("e")), 4);
        CHECKS.due("5: of another kind, another number", x.named(1, Checks.letters("z")), 2);
        CHECKS.due("5: of QUESTIONS", x.named(2, Checks.letters("z")), 0);
        CHECKS.due("5: of QUESTIONS the second", x.named(2, Checks.letters("a")), 1);
        CHECKS.due("5: a FACT is no QUESTION", x.named(2, Checks.letters("b")), -1);
        int a = Checks.letters("a");
        for (int letters : new int[] {0, 1, 1 << 20, a | 1, a | 1 << 10, a | 1 << 30, a | 1 << 31, a | 3 << 30, -1, a + 1, a - 1,
            27 << 25, 31 << 25, Integer.MIN_VALUE, Integer.MAX_VALUE}) {
            CHECKS.due("5: there is none such: " + letters, x.named(0, letters), -1);
        }
        for (int what : new int[] {-1, 3, Integer.MIN_VALUE, Integer.MAX_VALUE}) {
            CHECKS.due("5: what " + what, x.named(what, a), -1);
        }
        Checks.tell(x, "fact z;");
        CHECKS.due("5: a new TEXT: its own numbers", x.named(0, Checks.letters("z")), 0);
        CHECKS.due("5: a new TEXT: no others", x.named(0, Checks.letters("ab")), -1);
        CHECKS.due("5: a new TEXT: no PERSON", x.named(1, Checks.letters("a")), -1);
    }

    /** "W: one of 1 .. 6 letters, none of those of the language"; "Blanks 10, 32." */
    private static void words() {
        CHECKS.dueLines("fact a;", 1);
        CHECKS.dueLines("fact abcdef;", 1);
        CHECKS.dueFault("fact abcdefg;", 1, 5);
        CHECKS.dueFault("fact abcdefghijklmnopqrstuvwxyzabcdefghijklmnopqrstuvwxyz;", 1, 5);
        CHECKS.dueFault("abcdefg a;", 1, 0);
        CHECKS.dueFault("persons a;", 1, 0);
        for (String word : LANGUAGE) {
            CHECKS.dueFault("fact " + word + ";", 1, 5);
            CHECKS.dueFault("person " + word + " 0 0 0;", 1, 7);
            CHECKS.dueFault("ask " + word + " plain none none none;", 1, 4);
            if (word.length() < 6) {
                CHECKS.dueLines("fact " + word + "x;", 1);
            }
            CHECKS.dueLines("fact " + word.substring(0, word.length() - 1) + "q;", 1);
        }
        for (int word = 0; word < LANGUAGE.length; word++) {
            if (word < 8 || word > 11) {
                CHECKS.dueFault("ask p " + LANGUAGE[word] + " none none none;", 1, 6);
            }
            if (word != 13 && word != 14) {
                CHECKS.dueFault("law " + LANGUAGE[word] + " 1;", 1, 4);
            }
            if (word < 17) {
                CHECKS.dueFault("law slip " + LANGUAGE[word] + " 1;", 1, 9);
            }
            if (word > 7) {
                CHECKS.dueFault(LANGUAGE[word] + " f;", 1, 0);
            }
        }
        for (String word : new String[] {"seeds", "nin", "lawn", "fac", "lips", "plain", "none", "day"}) {
            CHECKS.dueFault(word + " 1;", 1, 0);
        }
        CHECKS.dueLines("\n\nfact\nf\n;\n  fact   g ; ", 2);
        for (char sign : new char[] {0, 9, 11, 13, 31, 33, 'A', 'Z', '@', '[', '`', '{', '_', '.', ',', ':', '"', 127, 128, 160, 255}) {
            CHECKS.dueFault("fact f;" + sign + "fact g;", 1, 7);
            CHECKS.dueFault("fact f" + sign + ";", 1, 6);
            CHECKS.dueFault("fact " + sign + ";", 1, 5);
        }
        for (char sign : new char[] {'/', ':', '\'', '&', '|', '!', '%', '^', '?', '#', '[', ']', '<', '(', '9'}) {
            CHECKS.dueFault("fact f;fact" + sign + "g;", 1, 11);
        }
    }

    /** "A = (or > behind <) right behind < or > belongs to it." */
    private static void signsThatBelongTogether() {
        String[] good = {"1<2", "1<=2", "1=2", "1<>2", "1>=2", "1>2", "1 <=2", "1<= 2", "1\n<>\n2"};
        for (String e : good) {
            CHECKS.due("three KNOTS in " + e, CHECKS.dueLines("law slip " + e + ";", 1).count(4), 3);
        }
        CHECKS.dueFault("law slip 1< =2;", 1, 12);
        CHECKS.dueFault("law slip 1<\n=2;", 1, 12);
        CHECKS.dueFault("law slip 1< >2;", 1, 12);
        CHECKS.dueFault("law slip 1> =2;", 1, 12);
        CHECKS.dueFault("law slip 1==2;", 1, 11);
        CHECKS.dueFault("law slip 1=<2;", 1, 11);
        CHECKS.dueFault("law slip 1=>2;", 1, 11);
        CHECKS.dueFault("law slip 1><2;", 1, 11);
        CHECKS.dueFault("law slip 1>>2;", 1, 11);
        CHECKS.dueFault("law slip 1<<2;", 1, 11);
        CHECKS.dueFault("law slip 1<>=2;", 1, 12);
        CHECKS.dueFault("law slip 1<==2;", 1, 12);
        CHECKS.dueFault("law slip 1<=>2;", 1, 12);
        CHECKS.dueFault("law slip 1>=", 1, 12);
        CHECKS.dueFault("law slip 1<", 1, 11);
        AskedCourt x = new AskedCourt();
        Checks.feed(x, "law slip 1<=2;");
        CHECKS.due("the = is cut off", x.text(11), -1);
        CHECKS.due("more must come behind <", x.fault(1), 11);
    }

    /** LIPS and WIT 0 .. 9, a ROOM 0 .. 3, nine 0 .. 99, seed 0 .. 99999, N of E 0 .. 9999. */
    private static void numbers() {
        CHECKS.dueLines("person a 0 0 0;person b 9 9 3;person c 00009 0000000000000000009 0000000003;nine 0;seed 0;", 5);
        CHECKS.dueLines("nine 99;seed 99999;law slip 9999;law hear 00000000000009999;", 4);
        CHECKS.dueLines("nine 0000000000000000000000000099;seed 0000000000000000000099999;", 2);
        String[] great = {"10", "11", "99", "256", "2147483648", "4294967296", "18446744073709551616", "00000000000000010"};
        for (String n : great) {
            CHECKS.dueFault("person a " + n + " 0 0;", 2, 9);
            CHECKS.dueFault("person a 0 " + n + " 0;", 2, 11);
            CHECKS.dueFault("person a 0 0 " + n + ";", 2, 13);
            CHECKS.dueFault("nine " + n + "00;", 2, 5);
            CHECKS.dueFault("seed " + n + "0000;", 2, 5);
            CHECKS.dueFault("law hear " + n + "000;", 2, 9);
        }
        CHECKS.dueFault("person a 0 0 4;", 2, 13);
        CHECKS.dueFault("nine 100;", 2, 5);
        CHECKS.dueFault("seed 100000;", 2, 5);
        CHECKS.dueFault("law hear 10000;", 2, 9);
        CHECKS.dueFault("nine -1;", 1, 5);
        CHECKS.dueFault("seed none;", 1, 5);
        CHECKS.dueFault("person a 0 0 x;", 1, 13);
        CHECKS.dueFault("person a x 0 0;", 1, 9);
        CHECKS.dueFault("person a 0 x 0;", 1, 11);
        CHECKS.dueFault("person a 0 0 0 0;", 1, 15);
    }

    /** "can't stand there (the length, if more must come)" */
    private static void moreMustCome() {
        String ahead = "fact f;person a 0 0 0;person b 0 0 0;ask p idle none none none;";
        String[] lines = {"fact g;", "person c 1 2 3;", "knows a f;", "ask q plain f f f;", "talk a b p;", "nine 1;", "seed 1;",
            "law slip (1+2)*3<4 and not 5 or lips;"};
        for (String line : lines) {
            CHECKS.dueLines(ahead + line, 5);
            for (int end = 1; end < line.length(); end++) {
                boolean blank = line.charAt(end) == ' ' || line.charAt(end) == ';' || line.charAt(end - 1) == ' ';
                if (blank) {
                    CHECKS.dueFault(ahead + line.substring(0, end), 1, ahead.length() + end);
                    CHECKS.dueFault(ahead + line.substring(0, end) + " \n ", 1, ahead.length() + end + 3);
                    CHECKS.dueFault(ahead + line.substring(0, end) + "  @", 1, ahead.length() + end + 2);
                    // of a law some of these would be whole
                    if (line.charAt(end) != ';' && !line.startsWith("law")) {
                        CHECKS.dueFault(ahead + line.substring(0, end) + ";", 1, ahead.length() + end);
                    }
                }
            }
            CHECKS.dueFault(ahead + line + ";", 1, ahead.length() + line.length());
            CHECKS.dueFault(ahead + line.substring(0, line.length() - 1) + " x;", 1, ahead.length() + line.length());
        }
    }

    private static String facts(int many) {
        StringBuilder facts = new StringBuilder();
        for (int i = 0; i < many; i++) {
            facts.append("fact f").append((char) ('a' + i)).append(";");
        }
        return facts.toString();
    }

    /** "a ninth fact and so on (at the word of the LINE)" */
    private static void tooMuch() {
        CHECKS.due("eight FACTS", CHECKS.dueLines(facts(8), 8).count(0), 8);
        CHECKS.dueFault(facts(9), 2, facts(8).length());
        CHECKS.dueFault(facts(8) + " \nfact", 2, facts(8).length() + 2);
        CHECKS.dueFault(facts(8) + "fact fa;", 2, facts(8).length());
        StringBuilder persons = new StringBuilder();
        for (int i = 0; i < 5; i++) {
            persons.append("person ").append((char) ('a' + i)).append(" 0 0 0;");
        }
        CHECKS.due("five PERSONS", CHECKS.dueLines(persons.toString(), 5).count(1), 5);
        CHECKS.dueFault(persons + "person f 0 0 0;", 2, persons.length());
        CHECKS.dueFault(persons + "person 1", 2, persons.length());
        StringBuilder asks = new StringBuilder();
        for (int i = 0; i < 8; i++) {
            asks.append("ask ").append((char) ('a' + i)).append(" idle none none none;");
        }
        CHECKS.due("eight QUESTIONS", CHECKS.dueLines(asks.toString(), 8).count(2), 8);
        CHECKS.dueFault(asks + "ask a", 2, asks.length());
        StringBuilder talk = new StringBuilder(TWO + "ask p idle none none none;");
        for (int i = 0; i < 10; i++) {
            talk.append(i % 2 == 0 ? "talk a b p;" : "talk b a p;");
        }
        CHECKS.due("ten of the TALK", CHECKS.dueLines(talk.toString(), 13).count(3), 10);
        CHECKS.dueFault(talk + "talk a a p;", 2, talk.length());
        CHECKS.dueFault(talk + "talk", 2, talk.length());
        CHECKS.dueLines(talk + "fact f;knows a f;knows b f;nine 0;seed 0;law slip 1;law hear 1;", 20);
    }

    /** "a 65th KNOT of all E (N, NAMES, signs, not, and, or: one each)" */
    private static void tooManyKnots() {
        String sixtythree = "law slip 1" + "+1".repeat(31) + ";";
        CHECKS.due("63 KNOTS", CHECKS.dueLines(sixtythree, 1).count(4), 63);
        CHECKS.due("64 by N", CHECKS.dueLines(sixtythree + "law hear 9999;", 2).count(4), 64);
        CHECKS.due("64 by a NAME", CHECKS.dueLines(sixtythree + "law hear ((day));", 2).count(4), 64);
        int hear = sixtythree.length() + 9;
        for (String sign : new String[] {"+", "-", "*", "/", "<", "<=", "=", "<>", ">=", ">", " and", " or"}) {
            CHECKS.dueFault(sixtythree + "law hear 1" + sign + " 1;", 2, hear + (sign.charAt(0) == ' ' ? 2 : 1));
        }
        CHECKS.dueFault(sixtythree + "law hear not 1;", 2, hear + 4);
        CHECKS.dueFault(sixtythree + "law hear not lips;", 2, hear + 4);
        CHECKS.dueFault(sixtythree + "law hear not not 1;", 2, hear + 4);
        CHECKS.dueFault(sixtythree + "law hear not(1);", 2, hear + 4);
        CHECKS.due("64 in one E", CHECKS.dueLines("law slip not 1" + "+1".repeat(31) + ";", 1).count(4), 64);
        CHECKS.dueFault("law slip not 1" + "+1".repeat(31) + ";law hear 1;", 2, 14 + 62 + 1 + 9);
        CHECKS.dueFault("law slip not 1" + "+1".repeat(31) + ";law hear", 1, 14 + 62 + 1 + 8);
        CHECKS.dueFault("law slip 1" + "+1".repeat(32) + ";", 2, 10 + 63);
        CHECKS.due("brackets are none", CHECKS.dueLines("law slip ((((((((1))))))))" + "+(1)".repeat(31) + ";", 1).count(4), 63);
        CHECKS.due("one each", CHECKS.dueLines("law hear not lips + 10 * wit <= lost / 2 - heard and room <> kind or day;", 1).count(4), 18);
        CHECKS.dueLines("law slip " + "not ".repeat(63) + "1;", 1);
        CHECKS.dueFault("law slip " + "not ".repeat(64) + "1;", 2, 9 + 4 * 64);
        CHECKS.dueFault("law slip " + "not ".repeat(65) + "1;", 2, 9 + 4 * 64);
    }

    /** "a ninth '(' open" */
    private static void tooManyOpen() {
        CHECKS.dueLines("law slip ((((((((1))))))));law hear ((((((((1))))))));", 2);
        CHECKS.dueLines("law slip (((((((1)+(2))))))) * ((((((((3))))))));", 1);
        CHECKS.dueFault("law slip (((((((((1)))))))));", 2, 17);
        CHECKS.dueFault("law slip ((((((((1)+((1))))))));", 2, 21);
        CHECKS.dueFault("law slip not (not (not (not (not (not (not (not (not (1)))))))));", 2, 53);
        CHECKS.dueFault("law slip ((((((((1))))))));law hear (((((((((1", 2, 44);
        CHECKS.dueFault("law slip ((((((((1)))))))));", 1, 26);
        CHECKS.dueFault("law slip ((((((((1)))))));", 1, 25);
    }

    /** "3 told already: a name of its kind (at W), who knows what (at the second W), nine, seed (at the word), a law of its LAW (at LAW)." */
    private static void toldAlready() {
        CHECKS.dueFault("fact f;fact g;fact f;", 3, 19);
        CHECKS.dueFault("fact g;fact f; fact f", 3, 20);
        CHECKS.dueFault(TWO + "person b 10 0 0;", 3, TWO.length() + 7);
        CHECKS.dueFault("ask p idle none none none;ask p x", 3, 30);
        CHECKS.dueLines("fact a;person a 0 0 0;ask a idle a a a;", 3);
        String know = "fact f;fact g;" + TWO + "knows a f;knows a g;knows b f;knows b g;";
        CHECKS.dueLines(know, 8);
        for (String two : new String[] {"a f", "a g", "b f", "b g"}) {
            CHECKS.dueFault(know + "knows " + two, 3, know.length() + 8);
        }
        CHECKS.dueFault("nine 9;nine 9;", 3, 7);
        CHECKS.dueFault("nine 0;fact f;\nnine 1;", 3, 15);
        CHECKS.dueFault("seed 0;seed 0;", 3, 7);
        CHECKS.dueFault("seed 5;nine 5; seed", 3, 15);
        CHECKS.dueFault("law slip 1;law slip 1;", 3, 15);
        CHECKS.dueFault("law hear 1;law hear", 3, 15);
        CHECKS.dueFault("law slip 1;law hear 1;law  slip 1;", 3, 27);
        CHECKS.dueFault("law slip 1;law hear 1;law hear 10000;", 3, 26);
    }

    /** "4 a FACT, a PERSON, a QUESTION that isn't told ahead (at W)." */
    private static void notToldAhead() {
        String ahead = "fact f;" + TWO + "ask p plain f f f;";
        int at = ahead.length();
        CHECKS.dueFault("knows a f;person a 0 0 0;fact f;", 4, 6);
        CHECKS.dueFault(ahead + "knows f f;", 4, at + 6);
        CHECKS.dueFault(ahead + "knows p f;", 4, at + 6);
        CHECKS.dueFault(ahead + "knows a a;", 4, at + 8);
        CHECKS.dueFault(ahead + "knows a g;fact g;", 4, at + 8);
        CHECKS.dueFault(ahead + "ask q plain a f f;", 4, at + 12);
        CHECKS.dueFault(ahead + "ask q plain f p f;", 4, at + 14);
        CHECKS.dueFault(ahead + "ask q plain f f q;", 4, at + 16);
        CHECKS.dueFault(ahead + "ask q idle none none ff;", 4, at + 21);
        CHECKS.dueFault(ahead + "talk f b p;", 4, at + 5);
        CHECKS.dueFault(ahead + "talk c c p;", 4, at + 5);
        CHECKS.dueFault(ahead + "talk a p p;", 4, at + 7);
        CHECKS.dueFault(ahead + "talk a b f;", 4, at + 9);
        CHECKS.dueFault(ahead + "talk a b q;ask q idle none none none;", 4, at + 9);
        CHECKS.dueFault(ahead + "talk a b none;", 1, at + 9);
        CHECKS.dueFault(ahead + "talk none b p;", 1, at + 5);
        CHECKS.dueFault(ahead + "knows none f;", 1, at + 6);
        CHECKS.dueFault(ahead + "knows a none;", 1, at + 8);
    }

    /** "5 one who asks oneself in the TALK (at the second W)." */
    private static void asksOneself() {
        String ahead = TWO + "ask p idle none none none;";
        CHECKS.dueFault(ahead + "talk a a p;", 5, ahead.length() + 7);
        CHECKS.dueFault(ahead + "talk b  b p;", 5, ahead.length() + 8);
        CHECKS.dueFault(ahead + "talk b b", 5, ahead.length() + 7);
        CHECKS.dueFault(ahead + "talk b b q", 5, ahead.length() + 7);
        CHECKS.dueLines(ahead + "talk a b p;talk b a p;talk a b p;", 6);
    }

    /** "FAULTS, the first along the text (of one place the least)" */
    private static void ofOnePlaceTheLeast() {
        String full = "law slip not 1" + "+1".repeat(31);
        CHECKS.dueFault(full + " 1;", 1, full.length() + 1);
        CHECKS.dueFault(full + " lips;", 1, full.length() + 1);
        CHECKS.dueFault(full + " not 1;", 1, full.length() + 1);
        CHECKS.dueFault(full + " 10000;", 1, full.length() + 1);
        CHECKS.dueFault(full + ";law hear ;", 1, full.length() + 10);
        CHECKS.dueFault(full + ";law hear +;", 1, full.length() + 10);
        CHECKS.dueFault(full + ";law hear 10000;", 2, full.length() + 10);
        CHECKS.dueFault("law slip ((((((((1(1", 1, 18);
        CHECKS.dueFault("law slip 1<2+1<" + "1+".repeat(40), 1, 14);
        CHECKS.dueFault("person a 10 10 4;fact", 2, 9);
        CHECKS.dueFault("person a 0 10 x", 2, 11);
        CHECKS.dueFault("person a x 10 4", 1, 9);
        CHECKS.dueFault("knows a f;fact A", 4, 6);
        CHECKS.dueFault("A;knows a f;", 1, 0);
        CHECKS.dueFault("nine 1;nine 100;", 3, 7);
        CHECKS.dueFault("nine 100;nine 1;", 2, 5);
    }

    /** "B: not B | C." */
    private static void whereNotMayStand() {
        CHECKS.dueLines("law slip not 1 and not not 2 or not 3;", 1);
        CHECKS.dueLines("law slip (not 1) + 1;law hear 1 < (not 2);", 2);
        for (String sign : new String[] {"+", "-", "*", "/", "<", "<=", "=", "<>", ">=", ">"}) {
            CHECKS.dueFault("law slip 1" + sign + " not 1;", 1, 10 + sign.length() + 1);
        }
        CHECKS.dueFault("law slip not;", 1, 12);
        CHECKS.dueFault("law slip not and 1;", 1, 13);
        CHECKS.dueFault("law slip or 1;", 1, 9);
        CHECKS.dueFault("law slip 1 and or 1;", 1, 15);
        CHECKS.dueFault("law slip 1 < 2 and 3 < 4 < 5;", 1, 25);
        CHECKS.dueLines("law slip 1 < 2 and 3 < 4 or 4 < 5 and not 1 = 2;", 1);
        CHECKS.dueFault("law slip not 1 < 2 = 3;", 1, 19);
        CHECKS.dueFault("law slip 1 < 2 + 3 * 4 = 3;", 1, 23);
        CHECKS.dueFault("law slip 1 < (2 < 3 < 4);", 1, 20);
        CHECKS.dueLines("law slip 1 < (2 < 3) or (1 < 2) < 3;", 1);
        CHECKS.dueFault("law slip (1 < 2;", 1, 15);
        CHECKS.dueFault("law slip (1;2);", 1, 11);
        CHECKS.dueFault("law slip 1 ( 2;", 1, 11);
        CHECKS.dueFault("law slip )", 1, 9);
        CHECKS.dueFault("law slip (1+);", 1, 12);
        CHECKS.dueFault("law slip 1 lips;", 1, 11);
        CHECKS.dueFault("law slip lips wit;", 1, 14);
        CHECKS.dueFault("law slip none;", 1, 9);
        CHECKS.dueFault("fact x;person x 0 0 0;law slip x;", 1, 31);
        CHECKS.dueFault("law slip 1 + abcdef;", 1, 13);
        CHECKS.dueFault("law lips 1;", 1, 4);
        CHECKS.dueFault("law 1;", 1, 4);
        CHECKS.dueFault("law;", 1, 3);
        CHECKS.dueFault("law hear;", 1, 8);
        CHECKS.dueFault("law hear 1 and;", 1, 14);
        CHECKS.dueFault("law hear 1 <;", 1, 12);
    }
}
