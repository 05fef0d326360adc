/** Promises 1 to 5: a new object, feed, text, fault, named; and what a TEXT may tell. */
public final class TextTest {
    private static final Checks CHECKS = new Checks("TextTest");

    public static void main(String[] args) {
        newObject();
        feeding();
        texts();
        allStaysWithFault();
        names();
        faultOne();
        faultTwo();
        faultThree();
        faultFourAndFive();
        faultsOfLaws();
        firstFault();
        CHECKS.end();
    }

    private static void newObject() {
        AskedCourt x = new AskedCourt();
        for (int what = 0; what < 12; what++) {
            CHECKS.due("new count(" + what + ")", x.count(what), 0);
        }
        CHECKS.due("new fault(0)", x.fault(0), 0);
        CHECKS.due("new fault(1)", x.fault(1), -1);
        CHECKS.due("new text(1): the tape is empty", x.text(1), -2);
        CHECKS.due("new keep", x.keep(), 0);
        CHECKS.due("new back", x.back(), 0);
        CHECKS.due("new known(-1)", x.known(-1), true);
        CHECKS.due("new known(1)", x.known(1), false);
        CHECKS.due("new end", x.end(), 1);
        CHECKS.due("NONE", AskedCourt.NONE, -1);
    }

    private static void feeding() {
        AskedCourt x = new AskedCourt();
        for (int i = 1; i <= 35; i++) {
            CHECKS.due("feed " + i, x.feed(0x20202020, 0x0a0a0a0a, 0x20202020, 0x20202020, 0x20202020), 20 * i);
        }
        CHECKS.due("feed beyond 700", x.feed(1, 2, 3, 4, 5), -1);
        CHECKS.due("text(701)", x.text(701), -2);
        CHECKS.due("text of 700 blanks", x.text(700), 0);
        CHECKS.due("the tape is empty", x.text(1), -2);
        x.feed(0x66616374, 0x20780a3b, 0x80ffff00, 0, 0);
        CHECKS.due("highest byte first", x.text(8), 1);
        CHECKS.due("fact x", x.named(0, Checks.letters("x")), 0);
        x.feed(0x66616374, 0x20780a3b, 0x80ffff00, 0, 0);
        CHECKS.due("a byte above 127", x.text(9), -1);
        CHECKS.due("its fault", x.fault(0), 1);
        CHECKS.due("its place", x.fault(1), 8);
    }

    private static void texts() {
        AskedCourt x = new AskedCourt();
        CHECKS.due("text(0)", x.text(0), 0);
        Checks.feed(x, "fact f;");
        CHECKS.due("text(-1)", x.text(-1), -2);
        CHECKS.due("text(21)", x.text(21), -2);
        CHECKS.due("the tape stays", x.feed(0, 0, 0, 0, 0), 40);
        CHECKS.due("text(7) of forty", x.text(7), 1);
        CHECKS.due("text(1): nothing is left", x.text(1), -2);
        CHECKS.due("signs without blanks", Checks.tell(x, "fact f;person a1 2 3;knows a f;ask p idle f f f;law hear(1)<=2;nine07;"), 6);
        CHECKS.due("zeros ahead", Checks.tell(x, "\n person a 000 0009 03 ;seed 000099999;"), 2);
        CHECKS.due("wit 0009", x.person(0, 1), 9);
        CHECKS.due("one name of each kind", Checks.tell(x, "fact a;person a 0 0 0;ask a plain a a a;"), 3);
        Checks.tell(x, "fact f;person a 1 1 1;person b 1 1 1;ask p plain none none f;talk a b p;");
        x.note(0, 0, 0, true);
        x.known(1);
        x.keep();
        x.ask(0, 1, 0);
        x.end();
        Checks.tell(x, "fact f;person a 1 1 1;person b 1 1 1;ask p plain none none f;talk a b p;");
        CHECKS.due("DAY 0", x.count(5), 0);
        CHECKS.due("nothing asked", x.count(8), 0);
        CHECKS.due("no NOTES", x.count(9), 0);
        CHECKS.due("no IMAGE", x.back(), -1);
        CHECKS.due("nothing to undo", x.undo(), -1);
        x.note(0, 0, 0, true);
        CHECKS.due("all KNOWN", x.knew(0), 1);
        Checks.tell(x, "");
        x.text(0);
        CHECKS.due("an empty TEXT", x.count(1), 0);
    }

    private static void allStaysWithFault() {
        AskedCourt x = Checks.court("fact f;person a 1 2 3;person b 1 2 3;ask p plain none none f;talk a b p;");
        x.note(1, 0, 0, false);
        x.end();
        x.keep();
        x.tell(0, 0);
        CHECKS.due("a fault", Checks.tell(x, "fact g;person c 1 2 3;knows c f;"), -1);
        CHECKS.due("fault", x.fault(0), 4);
        CHECKS.due("place", x.fault(1), 30);
        CHECKS.due("text -2", x.text(1), -2);
        CHECKS.due("fault stays by -2", x.fault(0), 4);
        CHECKS.due("fault(2)", x.fault(2), -1);
        CHECKS.due("fault(-1)", x.fault(-1), -1);
        CHECKS.due("FACTS stay", x.named(0, Checks.letters("f")), 0);
        CHECKS.due("PERSONS stay", x.count(1), 2);
        CHECKS.due("KNOWN stays", x.person(0, 3), 1);
        CHECKS.due("DAY stays", x.count(5), 1);
        CHECKS.due("NOTES stay", x.count(9), 1);
        CHECKS.due("undo stays", x.undo(), 1);
        CHECKS.due("IMAGE stays", x.back(), 1);
        CHECKS.due("a good one", Checks.tell(x, "fact g;"), 1);
        CHECKS.due("no fault", x.fault(0), 0);
        CHECKS.due("no place", x.fault(1), -1);
    }

    private static void names() {
        AskedCourt x = Checks.court("fact f;fact abcdef;person z 0 0 0;person zz 0 0 0;ask zz plain none none none;");
        CHECKS.due("f", x.named(0, 6 << 25), 0);
        CHECKS.due("abcdef", x.named(0, Checks.letters("abcdef")), 1);
        CHECKS.due("abcde", x.named(0, Checks.letters("abcde")), -1);
        CHECKS.due("z", x.named(1, 26 << 25), 0);
        CHECKS.due("zz", x.named(1, 26 << 25 | 26 << 20), 1);
        CHECKS.due("question zz", x.named(2, 26 << 25 | 26 << 20), 0);
        CHECKS.due("fact zz", x.named(0, 26 << 25 | 26 << 20), -1);
        CHECKS.due("letters 0", x.named(0, 0), -1);
        CHECKS.due("f at the low end", x.named(0, 6), -1);
        CHECKS.due("letters below 0", x.named(0, 6 << 25 | 1 << 31), -1);
        CHECKS.due("what 3", x.named(3, 6 << 25), -1);
        CHECKS.due("what -1", x.named(-1, 6 << 25), -1);
    }

    private static void dueFault(String text, int fault, int place) {
        AskedCourt x = new AskedCourt();
        CHECKS.due("'" + text + "'", Checks.tell(x, text), -1);
        CHECKS.due("fault of '" + text + "'", x.fault(0), fault);
        CHECKS.due("place of '" + text + "'", x.fault(1), place);
    }

    private static void faultOne() {
        dueFault(";", 1, 0);
        dueFault("fact f;;", 1, 7);
        dueFault("fact", 1, 4);
        dueFault("fact f  ", 1, 8);
        dueFault("fact f fact g;", 1, 7);
        dueFault("fact abcdefg;", 1, 5);
        dueFault("fact fact;", 1, 5);
        dueFault("fact day;", 1, 5);
        dueFault("fact F;", 1, 5);
        dueFault("fact\tf;", 1, 4);
        dueFault("fact 5;", 1, 5);
        dueFault("f;", 1, 0);
        dueFault("person a 1 2;", 1, 12);
        dueFault("person a -1 2 3;", 1, 9);
        dueFault("fact f;person a 0 0 0;knows a none;", 1, 30);
        dueFault("ask p plain none none;", 1, 21);
        dueFault("ask p none none none none;", 1, 6);
        dueFault("nine;", 1, 4);
        dueFault("seed x;", 1, 5);
        dueFault("law hea 1;", 1, 4);
    }

    private static void faultTwo() {
        dueFault("person a 10 0 0;", 2, 9);
        dueFault("person a 0 99999999999999999999 0;", 2, 11);
        dueFault("person a 0 0 4;", 2, 13);
        dueFault("nine 100;", 2, 5);
        dueFault("seed 100000;", 2, 5);
        dueFault("seed 4294967297;", 2, 5);
        StringBuilder talk = new StringBuilder("person a 0 0 0;person b 0 0 0;ask p plain none none none;");
        for (int i = 0; i < 10; i++) {
            talk.append("talk a b p;");
        }
        CHECKS.due("ten of the TALK", Checks.court(talk.toString()).count(3), 10);
        dueFault(talk + "talk a b p;", 2, talk.length());
        dueFault(talk + " talk 5", 2, talk.length() + 1);
        StringBuilder facts = new StringBuilder();
        StringBuilder asks = new StringBuilder();
        for (int i = 0; i < 8; i++) {
            facts.append("fact x").append((char) ('a' + i)).append(";");
            asks.append("ask x").append((char) ('a' + i)).append(" idle none none none;");
        }
        CHECKS.due("eight FACTS", Checks.court(facts.toString()).count(0), 8);
        CHECKS.due("eight QUESTIONS", Checks.court(asks.toString()).count(2), 8);
        dueFault(facts + "fact xa;", 2, facts.length());
        dueFault(asks + "ask;", 2, asks.length());
        String persons = "person a 0 0 0;person b 0 0 0;person c 0 0 0;person d 0 0 0;person e 0 0 0;";
        CHECKS.due("five PERSONS", Checks.court(persons).count(1), 5);
        dueFault(persons + "person", 2, persons.length());
    }

    private static void faultThree() {
        dueFault("fact f;fact f;", 3, 12);
        dueFault("person a 0 0 0;person a", 3, 22);
        dueFault("ask p idle none none none;ask p", 3, 30);
        dueFault("fact f;person a 0 0 0;knows a f;knows a f;", 3, 40);
        dueFault("nine 1; nine", 3, 8);
        dueFault("seed 1;seed 1;", 3, 7);
        dueFault("law hear 1;law hear 1;", 3, 15);
        CHECKS.due("a law of each", Checks.court("law hear 1;law slip 1;").count(4), 2);
    }

    private static void faultFourAndFive() {
        dueFault("fact f;knows a f;", 4, 13);
        dueFault("person a 0 0 0;knows a f;fact f;", 4, 23);
        dueFault("person f 0 0 0;ask p plain f none none;", 4, 27);
        dueFault("fact f;ask p plain f g none;", 4, 21);
        dueFault("fact f;ask p plain f none g;", 4, 26);
        dueFault("person a 0 0 0;talk b a p;", 4, 20);
        dueFault("person a 0 0 0;talk a b p;", 4, 22);
        dueFault("person a 0 0 0;person b 0 0 0;talk a b p;", 4, 39);
        dueFault("person a 0 0 0;talk a a p;", 5, 22);
        dueFault("person a 0 0 0;talk a a", 5, 22);
    }

    private static void faultsOfLaws() {
        dueFault("law slip", 1, 8);
        dueFault("law slip 1", 1, 10);
        dueFault("law slip (1;", 1, 11);
        dueFault("law slip 1);", 1, 10);
        dueFault("law slip ();", 1, 10);
        dueFault("law slip 1 2;", 1, 11);
        dueFault("law slip 1 < 2 < 3;", 1, 15);
        dueFault("law slip 1 < 2 = 3;", 1, 15);
        dueFault("law slip 1 + not 1;", 1, 13);
        dueFault("law slip 1 < not 1;", 1, 13);
        dueFault("law slip 1 not 1;", 1, 11);
        dueFault("law slip -1;", 1, 9);
        dueFault("law slip 1 > = 2;", 1, 13);
        dueFault("law slip 1 = < 2;", 1, 13);
        dueFault("law slip 1 <=> 2;", 1, 13);
        dueFault("law slip a;", 1, 9);
        dueFault("law slip plain;", 1, 9);
        dueFault("law slip 10000;", 2, 9);
        dueFault("law slip 1 + 99999;", 2, 13);
        dueFault("law slip (((((((((1)))))))));", 2, 17);
        CHECKS.due("eight open, then eight more", Checks.court("law slip ((((((((1))))))))+((((((((1))))))));").count(4), 3);
        StringBuilder sum = new StringBuilder("law slip 1");
        for (int i = 0; i < 31; i++) {
            sum.append("+1");
        }
        CHECKS.due("64 KNOTS", Checks.court(sum + ";law hear 9999;").count(4), 64);
        dueFault(sum + ";law hear 1+1;", 2, sum.length() + 11);
        dueFault(sum + "+1;", 2, sum.length() + 1);
        dueFault(sum + ";law hear not 1;", 2, sum.length() + 14);
        dueFault(sum + "))", 1, sum.length());
    }

    private static void firstFault() {
        dueFault("fact f;fact f;A", 3, 12);
        dueFault("fact A;fact f;fact f;", 1, 5);
        dueFault("law slip 10000 10000;", 2, 9);
        dueFault("law slip 1 10000;", 1, 11);
        dueFault("nine 1;nine 1000 1000", 3, 7);
    }
}
