/** The promises of the document, one by one: ordinary inputs, edges, wrong inputs. */
public final class PromisesTest extends Checks {
    public static void main(String[] args) {
        newObject();
        feed();
        claim();
        claimFaults();
        claimDepth();
        paper();
        paperFaults();
        fault();
        due();
        late();
        count();
        fact();
        told();
        heard();
        strike();
        open();
        holds();
        turns();
        enough();
        silence();
        proof();
        bring();
        proved();
        likely();
        chance();
        worth();
        best();
        bestOfFirstEight();
        game();
        without();
        seed();
        trial();
        keepAndGoBack();
        imagesKeepAll();
        refusalsChangeNothing();
        end();
    }

    // ---- promises

    private static void newObject() {
        about("Promise 1");
        PleaPapers x = new PleaPapers();
        is("count(0)", x.count(0), 0);
        is("count(1)", x.count(1), 0);
        is("count(2)", x.count(2), 0);
        is("count(3)", x.count(3), 0);
        is("count(4)", x.count(4), 12);
        is("fault()", x.fault(), NONE);
        is("open()", x.open(), 0);
        for (int f = 0; f < 12; f++) {
            is("fact(" + f + ", 0)", x.fact(f, 0), 0);
            for (int what = 1; what < 5; what++) is("fact(" + f + ", " + what + ")", x.fact(f, what), NONE);
        }
        is("worth(0)", x.worth(0), 0);
        is("trial()", x.trial(), 0);
        is("seed(5)", x.seed(5), 0);
        is("due(5)", x.due(5), 20);
        is("goBack(0)", x.goBack(0), NOT);
        is("goBack(1)", x.goBack(1), NOT);
        is("best(0, 0, 0)", x.best(0, 0, 0), 0);
        is("game(1, 1)", x.game(1, 1), 0);
    }

    private static void feed() {
        about("Promise 2");
        PleaPapers x = new PleaPapers();
        is("feed(0, 0)", x.feed(0, 0), OUTSIDE);
        is("feed(9, 0)", x.feed(9, 0), OUTSIDE);
        is("feed(-1, 0)", x.feed(-1, 0), OUTSIDE);
        is("feed(least, 0)", x.feed(Integer.MIN_VALUE, 0), OUTSIDE);
        is("feed(greatest, 0)", x.feed(Integer.MAX_VALUE, 0), OUTSIDE);
        // 'pay 1 if' with other bytes ahead of the lowest ones
        is("feed(3, pay)", x.feed(3, 0x7777777777706179L), 3);
        is("feed(5, 1 if)", x.feed(5, 0xff00002031206966L), 8);
        is("feed(2,  0)", x.feed(2, 0x2030L), 10);
        is("claim()", x.claim(), 0);
        for (int i = 1; i <= 20; i++) is("feed(8, 0)", x.feed(8, 0x2020202020202020L), 8 * i);
        is("feed(1, 0) of the 161st", x.feed(1, 0), FULL);
        is("feed(0, 0) of a full one", x.feed(0, 0), OUTSIDE);
        is("count(3)", x.count(3), 160);
        is("paper(0) of 160 blanks", x.paper(0), 0);
        for (int i = 1; i <= 19; i++) x.feed(8, 0);
        is("feed(7, 0)", x.feed(7, 0), 159);
        is("feed(2, 0)", x.feed(2, 0), FULL);
        is("feed(1, 0)", x.feed(1, 0), 160);
        is("a byte above 127", claimOfByte(225), -11);
        is("fault of a byte above 127", faultOfByte(225), 0);
    }

    private static int claimOfByte(int value) {
        PleaPapers x = new PleaPapers();
        x.feed(1, value);
        return x.claim();
    }

    private static int faultOfByte(int value) {
        PleaPapers x = new PleaPapers();
        x.feed(1, value);
        x.claim();
        return x.fault();
    }

    private static void claim() {
        about("Promise 3");
        isClaim("pay 100 if 0 and 1 and not 2", 100, 7);
        isClaim("owe 40 if 3 or (4 and not 0)", -40, 25);
        isClaim("pay999if11", 999, 2048);
        isClaim("  owe  001  if  011  ", -1, 2048);
        isClaim("pay 1 if 003and(4or 5)and not(not 6)", 1, 120);
        PleaPapers x = new PleaPapers();
        for (int c = 0; c < 6; c++) is("claim " + c, claim(x, "pay " + (c + 1) + " if " + c), c);
        is("a seventh claim", claim(x, "pay 1 if 1"), FULL);
        is("count(3)", x.count(3), 10);
        is("a seventh claim, with a fault", claim(x, "x"), FULL);
        is("a long seventh claim", claim(x, times(" ", 110)), NOT);
        is("count(3)", x.count(3), 121);
        is("count(0)", x.count(0), 6);
        PleaPapers y = new PleaPapers();
        String text = "pay 5 if 1" + times(" ", 110);
        is("121 bytes", claim(y, text + " "), NOT);
        is("count(3)", y.count(3), 121);
        is("paper(0) of it", y.paper(0), -11);
        is("120 bytes", claim(y, text), 0);
        isMeant();
    }

    /** All facts are admitted, those of the set as so. */
    private static int holdsIf(String text, int set) {
        PleaPapers x = new PleaPapers();
        StringBuilder said = new StringBuilder("say ");
        for (int f = 0; f < 12; f++) said.append(f > 0 ? "," : "").append((set >> f & 1) == 1 ? "" : "not ").append(f);
        claim(x, text);
        paper(x, 0, said + ";");
        x.paper(0);
        return x.told(0, 2);
    }

    private static void isMeant() {
        about("Terms 1");
        for (int set = 0; set < 8; set++) {
            boolean a = (set & 1) != 0;
            boolean b = (set & 2) != 0;
            boolean c = (set & 4) != 0;
            is("0 or 1 and 2", holdsIf("pay 1 if 0 or 1 and 2", set), a || b && c ? 1 : 0);
            is("0 and 1 or 2", holdsIf("pay 1 if 0 and 1 or 2", set), a && b || c ? 1 : 0);
            is("(0 or 1) and 2", holdsIf("pay 1 if (0 or 1) and 2", set), (a || b) && c ? 1 : 0);
            is("not 0 and 1", holdsIf("pay 1 if not 0 and 1", set), !a && b ? 1 : 0);
            is("not 0 or 1", holdsIf("pay 1 if not 0 or 1", set), !a || b ? 1 : 0);
            is("not (0 or 1) and 2", holdsIf("pay 1 if not (0 or 1) and 2", set), !(a || b) && c ? 1 : 0);
            is("not not 0", holdsIf("pay 1 if not not 0", set), a ? 1 : 0);
        }
        for (int f = 0; f < 12; f++) {
            is("fact " + f, holdsIf("owe 1 if " + f, 1 << f), 1);
            is("not fact " + f, holdsIf("owe 1 if " + f, 4095 & ~(1 << f)), 0);
        }
    }

    private static void claimFaults() {
        about("Promise 3, faults");
        isClaimFault("", 1, 0);
        isClaimFault("   ", 1, 3);
        isClaimFault("pays 5 if 1", 1, 0);
        isClaimFault("payz 5 if 1", 1, 0);
        isClaimFault("paya 5 if 1", 1, 0);
        isClaimFault("pay` 5 if 1", 1, 3);
        isClaimFault("pay{ 5 if 1", 1, 3);
        isClaimFault("pay 5/ if 1", 1, 5);
        isClaimFault("pay 5: if 1", 1, 5);
        isClaimFault("Pay 5 if 1", 1, 0);
        isClaimFault("5 if 1", 1, 0);
        isClaimFault("pay", 1, 3);
        isClaimFault("pay ", 1, 4);
        isClaimFault("pay x", 1, 4);
        isClaimFault("pay -5 if 1", 1, 4);
        isClaimFault("pay 0 if 1", 2, 4);
        isClaimFault("pay 000 if 1", 2, 4);
        isClaimFault("pay 1000 if 1", 2, 4);
        isClaimFault("pay 0005 if 1", 2, 4);
        isClaimFault("pay 99999999999999999999 if", 2, 4);
        isClaimFault("pay 5 6 if 1", 1, 6);
        isClaimFault("pay 5 of 1", 1, 6);
        isClaimFault("pay 5 iff 1", 1, 6);
        isClaimFault("pay 5 1", 1, 6);
        isClaimFault("pay 5 if", 1, 8);
        isClaimFault("pay 5 if 12", 2, 9);
        isClaimFault("pay 5 if 0001", 2, 9);
        isClaimFault("pay 5 if 1 2", 1, 11);
        isClaimFault("pay 5 if 1 not 2", 1, 11);
        isClaimFault("pay 5 if 1 1234", 1, 11);
        isClaimFault("pay 5 if 1 and", 1, 14);
        isClaimFault("pay 5 if 1 and or 2", 1, 15);
        isClaimFault("pay 5 if and 2", 1, 9);
        isClaimFault("pay 5 if notnot 1", 1, 9);
        isClaimFault("pay 5 if (1", 1, 11);
        isClaimFault("pay 5 if (1 ", 1, 12);
        isClaimFault("pay 5 if 1)", 1, 10);
        isClaimFault("pay 5 if ()", 1, 10);
        isClaimFault("pay 5 if (1))", 1, 12);
        isClaimFault("pay 5 if 1;", 1, 10);
        isClaimFault("pay 5 if 1\t", 1, 10);
        isClaimFault("pay 5 if not", 1, 12);
        isClaimFault("pay 5 if 1 xor 12", 1, 11);
        isClaimFault("pay 5 if 12 xor 1", 2, 9);
    }

    private static void claimDepth() {
        about("Promise 3, depth");
        isClaim("pay 5 if " + times("not ", 8) + "1", 5, 2);
        isClaimFault("pay 5 if " + times("not ", 9) + "1", 3, 9 + 32);
        isClaim("pay 5 if " + times("(", 8) + "1" + times(")", 8), 5, 2);
        isClaimFault("pay 5 if " + times("(", 9) + "1" + times(")", 9), 3, 9 + 8);
        isClaim("pay 5 if " + times("not (", 4) + "1" + times(")", 4), 5, 2);
        isClaimFault("pay 5 if " + times("not (", 4) + "not 1", 3, 9 + 20);
        isClaimFault("pay 5 if " + times("not (", 4) + "(1", 3, 9 + 20);
        // a 'not' is closed with its N: what comes behind it starts anew
        isClaim("pay 5 if " + times("not ", 8) + "1 and " + times("not ", 8) + "2", 5, 6);
        isClaim("pay 5 if not (1) or " + times("(", 8) + "2" + times(")", 8), 5, 6);
        isClaim("pay 5 if " + times("(", 7) + "not 1 and not 2 or (3)" + times(")", 7), 5, 14);
        isClaimFault("pay 5 if " + times("(", 7) + "not 1 and not (", 3, 9 + 7 + 14);
        isClaimFault("pay 5 if " + times("(", 8) + "and", 1, 17);
        isClaimFault("pay 5 if " + times("(", 8) + "12", 2, 17);
    }

    private static void paper() {
        about("Promise 4");
        PleaPapers x = new PleaPapers();
        is("paper(-1)", paper(x, -1, "say 0;"), OUTSIDE);
        is("paper(1000)", x.paper(1000), OUTSIDE);
        is("count(3)", x.count(3), 6);
        is("paper(500)", x.paper(500), 0);
        is("paper(499)", paper(x, 499, "deny 0;"), NOT);
        is("count(3)", x.count(3), 7);
        is("paper(500)", x.paper(500), 1);
        is("an empty paper", x.paper(510), 2);
        is("a blank paper", paper(x, 510, "  "), 3);
        is("all kinds", paper(x, 511, "take 0;say 1 , not 02,3;"), 4);
        is("fact(0, 0)", x.fact(0, 0), 0);
        is("answers", paper(x, 512, "admit 1;deny 2;doubt 3;say 4;"), 5);
        is("fact(1, 0)", x.fact(1, 0), 2);
        is("fact(2, 0)", x.fact(2, 0), 3);
        is("fact(3, 0)", x.fact(3, 0), 4);
        is("fact(4, 0)", x.fact(4, 0), 1);
        for (int p = 6; p < 10; p++) is("paper " + p, x.paper(999), p);
        is("an eleventh", paper(x, 999, "say 5;"), FULL);
        is("an eleventh, too early", x.paper(998), NOT);
        is("an eleventh, out of bounds", x.paper(1000), OUTSIDE);
        is("count(3)", x.count(3), 6);
        is("count(1)", x.count(1), 10);
    }

    private static void paperFaults() {
        about("Promise 4, faults");
        PleaPapers x = new PleaPapers();
        isPaperFault(x, 0, "x", 1, 0);
        isPaperFault(x, 0, "says 0;", 1, 0);
        isPaperFault(x, 0, "say", 1, 3);
        isPaperFault(x, 0, "say ", 1, 4);
        isPaperFault(x, 0, "say;", 1, 3);
        isPaperFault(x, 0, "say 0", 1, 5);
        isPaperFault(x, 0, "say 0  ", 1, 7);
        isPaperFault(x, 0, "say 0,", 1, 6);
        isPaperFault(x, 0, "say 0,;", 1, 6);
        isPaperFault(x, 0, "say 0 1;", 1, 6);
        isPaperFault(x, 0, "say 0;;", 1, 6);
        isPaperFault(x, 0, "say 0;1", 1, 6);
        isPaperFault(x, 0, "say not not 0;", 1, 8);
        isPaperFault(x, 0, "say not;", 1, 7);
        isPaperFault(x, 0, "say 12;", 2, 4);
        isPaperFault(x, 0, "say 0000;", 2, 4);
        isPaperFault(x, 0, "say not 999;", 2, 8);
        isPaperFault(x, 0, "say 0;say 1;", 3, 6);
        isPaperFault(x, 0, "say 0;say", 3, 6);
        isPaperFault(x, 0, "say 0,0;", 4, 6);
        isPaperFault(x, 0, "say 0,not 00;", 4, 10);
        isPaperFault(x, 0, "say 0;deny 0;", 4, 11);
        isPaperFault(x, 0, "admit not 0;", 1, 6);
        isPaperFault(x, 0, "deny not 0;", 1, 5);
        isPaperFault(x, 0, "admit 0;", 5, 6);
        isPaperFault(x, 0, "deny 0;", 5, 5);
        isPaperFault(x, 0, "doubt 0;", 5, 6);
        isPaperFault(x, 0, "take 0;", 5, 5);
        isPaperFault(x, 0, "say 0;take 0;", 4, 11);
        paper(x, 0, "say 0,1,2,3,4;");
        isPaperFault(x, 0, "say 0;", 5, 4);
        isPaperFault(x, 0, "say not 0;", 5, 8);
        isPaperFault(x, 0, "take 0;", 5, 5);
        isPaperFault(x, 0, "deny 0;doubt 0;", 4, 13);
        isPaperFault(x, 0, "deny 0,5;", 5, 7);
        paper(x, 0, "admit 0;deny 1;doubt 2;say 5;");
        isPaperFault(x, 0, "take 0;", 5, 5);
        isPaperFault(x, 0, "take 3;", 5, 5);
        isPaperFault(x, 0, "take 5;", 5, 5);
        isPaperFault(x, 0, "deny 1;", 5, 5);
        isPaperFault(x, 0, "take 1;say 1;", 4, 11);
        isPaperFault(x, 0, "take 1,6;", 5, 7);
        is("take of denied and doubted ones", paper(x, 0, "take 1,2;"), 2);
        is("say of one taken back, by the other side", paper(x, 0, "say not 1;"), 3);
        is("fact(1, 2)", x.fact(1, 2), 1);
        is("fact(1, 1)", x.fact(1, 1), 0);
    }

    private static void fault() {
        about("Promise 5");
        PleaPapers x = new PleaPapers();
        is("fault() at first", x.fault(), NONE);
        claim(x, "pay 5 of 1");
        is("fault()", x.fault(), 6);
        is("feed", x.feed(1, 'y'), 1);
        is("fault() behind feed", x.fault(), 6);
        x.paper(1000);
        is("fault() behind a refused paper", x.fault(), 6);
        x.paper(5);
        is("fault() of a paper", x.fault(), 0);
        x.paper(5);
        is("fault() of a good one", x.fault(), NONE);
        paper(x, 5, "say 0,1,x");
        x.keep(0);
        x.paper(4);
        is("fault() behind NOT", x.fault(), 8);
        x.strike();
        is("fault() behind strike", x.fault(), 8);
        tell(x, times(" ", 121));
        is("claim()", x.claim(), NOT);
        is("fault() behind a claim that is NOT", x.fault(), 8);
        x.goBack(0);
        is("fault() behind goBack", x.fault(), 8);
        is("bytes behind goBack", x.count(3), 121);
    }

    private static void due() {
        about("Promise 6");
        PleaPapers x = new PleaPapers();
        is("due(0)", x.due(0), OUTSIDE);
        is("due(100)", x.due(100), OUTSIDE);
        is("due(-5)", x.due(-5), OUTSIDE);
        is("due(1)", x.due(1), 20);
        is("due(99)", x.due(99), 1);
        is("due(20)", x.due(20), 99);
    }

    private static void late() {
        about("Promise 6, late");
        PleaPapers x = new PleaPapers();
        paper(x, 900, "say 0;");
        is("the first one is not late", x.heard(0, 1), 0);
        paper(x, 920, "deny 0;say 1;");
        is("20 days", x.heard(1, 1), 0);
        paper(x, 941, "deny 1;say 2;take 0;");
        is("21 days", x.heard(2, 1), 1);
        is("silence counts", x.fact(1, 0), 2);
        is("nothing is taken", x.fact(0, 0), 3);
        is("nothing is said", x.fact(2, 0), 0);
        is("its facts all the same", x.heard(2, 2), 7);
        is("its silence", x.heard(2, 3), 2);
        isPaperFault(x, 999, "say 1;", 5, 4);
        x.due(58);
        is("heard(2, 1) is not of the new DUE", x.heard(2, 1), 1);
        is("58 days", paper(x, 999, "say 3;"), 3);
        is("heard(3, 1)", x.heard(3, 1), 0);
        x.strike();
        x.due(57);
        is("58 days", paper(x, 999, "say 3;"), 3);
        is("heard(3, 1)", x.heard(3, 1), 1);
        is("count(4)", x.count(4), 10);
    }

    private static void count() {
        about("Promise 7");
        PleaPapers x = sample();
        x.proof(0, 0, 1, 1);
        x.feed(3, 0);
        int[] due = {3, 3, 1, 3, 5, 1, 3, 2, 1};
        for (int what = 0; what < 9; what++) is("count(" + what + ")", x.count(what), due[what]);
        is("count(9)", x.count(9), OUTSIDE);
        is("count(-1)", x.count(-1), OUTSIDE);
    }

    private static void fact() {
        about("Promise 8");
        PleaPapers x = sample();
        int[][] due = {{3, 1, 0, 0, 1}, {4, 1, 0, 0, 1}, {3, 1, 1, 1, 2}, {2, 1, 1, 1, 2}, {1, 1, 0, 2, -1},
            {2, 1, 0, 0, 1}, {2, 0, 0, 0, 1}, {0, -1, -1, -1, -1}};
        for (int f = 0; f < 8; f++) {
            for (int what = 0; what < 5; what++) is("fact(" + f + ", " + what + ")", x.fact(f, what), due[f][what]);
        }
        is("fact(12, 0)", x.fact(12, 0), UNKNOWN);
        is("fact(-1, 9)", x.fact(-1, 9), UNKNOWN);
        is("fact(0, 5)", x.fact(0, 5), OUTSIDE);
        is("fact(11, -1)", x.fact(11, -1), OUTSIDE);
        paper(x, 25, "admit 4;");
        is("fact(4, 0) admitted by word", x.fact(4, 0), 2);
        is("fact(4, 4)", x.fact(4, 4), 3);
        paper(x, 25, "take 0;");
        for (int what = 1; what < 5; what++) is("fact(0, " + what + ") taken back", x.fact(0, what), NONE);
        is("fact(0, 0)", x.fact(0, 0), 0);
    }

    private static void told() {
        about("Promise 9");
        PleaPapers x = sample();
        is("told(0, 0)", x.told(0, 0), 100);
        is("told(1, 0)", x.told(1, 0), -40);
        is("told(0, 1)", x.told(0, 1), 7);
        is("told(1, 1)", x.told(1, 1), 25);
        is("told(0, 2)", x.told(0, 2), NONE);
        is("told(1, 2)", x.told(1, 2), 1);
        is("told(3, 0)", x.told(3, 0), UNKNOWN);
        is("told(-1, 0)", x.told(-1, 0), UNKNOWN);
        is("told(3, 3)", x.told(3, 3), UNKNOWN);
        is("told(2, 3)", x.told(2, 3), OUTSIDE);
        is("told(2, -1)", x.told(2, -1), OUTSIDE);
        claim(x, "pay 1 if not 5");
        is("told(3, 2), lost", x.told(3, 2), 0);
        claim(x, "pay 1 if 7 or 0 and not 0");
        is("told(4, 2), lost whatever is shown", x.told(4, 2), 0);
        is("told(4, 1), its facts all the same", x.told(4, 1), 129);
        claim(x, "pay 1 if 0 or not 0");
        is("told(5, 2), sure whatever is shown", x.told(5, 2), 1);
    }

    private static void heard() {
        about("Promise 10");
        PleaPapers x = sample();
        is("heard(0, 0)", x.heard(0, 0), 0);
        is("heard(2, 0)", x.heard(2, 0), 25);
        is("heard(2, 1)", x.heard(2, 1), 0);
        is("heard(0, 2)", x.heard(0, 2), 99);
        is("heard(1, 2)", x.heard(1, 2), 15);
        is("heard(0, 3)", x.heard(0, 3), 0);
        is("heard(1, 3)", x.heard(1, 3), 96);
        is("heard(2, 3)", x.heard(2, 3), 8);
        is("heard(3, 0)", x.heard(3, 0), UNKNOWN);
        is("heard(-1, 7)", x.heard(-1, 7), UNKNOWN);
        is("heard(0, 4)", x.heard(0, 4), OUTSIDE);
        is("heard(0, -1)", x.heard(0, -1), OUTSIDE);
        paper(x, 25, "admit 4;");
        is("heard(3, 3), admitted by word", x.heard(3, 3), 0);
    }

    private static void strike() {
        about("Promise 11");
        PleaPapers x = sample();
        x.proof(0, 0, 1, 1);
        x.due(7);
        x.seed(9);
        is("strike()", x.strike(), 2);
        is("fact(2, 0)", x.fact(2, 0), 1);
        is("fact(3, 0)", x.fact(3, 0), 1);
        is("fact(3, 4)", x.fact(3, 4), NONE);
        is("fact(4, 0)", x.fact(4, 0), 0);
        is("heard(2, 0)", x.heard(2, 0), UNKNOWN);
        is("count(0)", x.count(0), 3);
        is("count(2)", x.count(2), 1);
        is("due(8)", x.due(8), 7);
        is("seed(0)", x.seed(0), 9);
        is("an earlier day than the one struck", paper(x, 10, "admit 3;take 0;"), 2);
        is("fact(0, 0)", x.fact(0, 0), 0);
        is("fact(2, 0)", x.fact(2, 0), 2);
        is("strike()", x.strike(), 2);
        is("fact(0, 0), not taken", x.fact(0, 0), 3);
        is("fact(0, 4)", x.fact(0, 4), 1);
        is("strike()", x.strike(), 1);
        is("strike()", x.strike(), 0);
        is("strike()", x.strike(), NOT);
        is("count(4)", x.count(4), 12);
        is("a first paper", x.paper(0), 0);
    }

    private static void open() {
        about("Promise 12");
        PleaPapers x = new PleaPapers();
        paper(x, 0, "say 0,1,not 2,11;");
        is("open() of those that await", x.open(), 1 + 2 + 4 + 2048);
        paper(x, 0, "deny 0;doubt 1;admit 2;");
        is("open()", x.open(), 3);
        paper(x, 0, "take 1;");
        is("open()", x.open(), 1);
    }

    private static void holds() {
        about("Promise 13");
        PleaPapers x = sample();
        is("holds(0, 3)", x.holds(0, 3), 1);
        is("holds(0, 7)", x.holds(0, 7), 0);
        is("holds(0, 1)", x.holds(0, 1), 0);
        is("holds(0, 19)", x.holds(0, 19), 1);
        is("holds(0, 8)", x.holds(0, 8), UNKNOWN);
        is("holds(0, 4096)", x.holds(0, 4096), UNKNOWN);
        is("holds(0, -1)", x.holds(0, -1), UNKNOWN);
        is("holds(0, lowest)", x.holds(0, Integer.MIN_VALUE), UNKNOWN);
        is("holds(3, 0)", x.holds(3, 0), UNKNOWN);
        is("holds(-1, 0)", x.holds(-1, 0), UNKNOWN);
        PleaPapers y = new PleaPapers();
        claim(y, "pay 1 if 0");
        claim(y, "pay 1 if not 1");
        claim(y, "pay 1 if 2");
        paper(y, 0, "say not 0,1;");
        is("not shown it is the other way", y.holds(0, 0), 1);
        is("shown it is as its word", y.holds(0, 1), 0);
        is("not shown", y.holds(1, 1), 1);
        is("shown", y.holds(1, 2), 0);
        is("free", y.holds(2, 3), 0);
    }

    private static void turns() {
        about("Promise 14");
        PleaPapers x = sample();
        is("turns(0)", x.turns(0), 7);
        is("turns(1)", x.turns(1), 0);
        is("turns(2)", x.turns(2), 0);
        is("turns(3)", x.turns(3), UNKNOWN);
        is("turns(-1)", x.turns(-1), UNKNOWN);
        claim(x, "pay 1 if 0 and 1 or 0 and not 1");
        is("turns of a fact that changes nothing", x.turns(3), 1);
        claim(x, "pay 1 if not 4 or 7 and 1");
        is("turns, free ones aside", x.turns(4), 16);
    }

    private static void enough() {
        about("Promise 15");
        PleaPapers x = sample();
        is("enough(0)", x.enough(0), NONE);
        is("enough(1)", x.enough(1), 0);
        is("enough(3)", x.enough(3), UNKNOWN);
        is("enough(-1)", x.enough(-1), UNKNOWN);
        PleaPapers y = new PleaPapers();
        claim(y, "pay 1 if 0 and 1 or 2 and 3 or 4 and 5 and 6");
        claim(y, "pay 1 if 0 and 1 and 2 or 7 and 6");
        claim(y, "pay 1 if not 0");
        claim(y, "pay 1 if not 8");
        paper(y, 0, "say 0,1,2,3,4,5,6,7;");
        is("the least of the fewest", y.enough(0), 3);
        is("the fewest ahead of the least", y.enough(1), 192);
        is("none", y.enough(2), NONE);
        is("already sure", y.enough(3), 0);
        paper(y, 0, "deny 0,1,2,3,4,5,6,7;say not 8;");
        is("more than 8 are open", y.enough(3), NOT);
        is("more than 8 are open, unknown", y.enough(4), UNKNOWN);
        paper(y, 0, "deny 8;take 0;");
        is("8 are open", y.enough(3), 256);
        is("8 are open", y.enough(0), 12);
    }

    private static void silence() {
        about("Promise 16");
        PleaPapers x = sample();
        is("silence(2, 1)", x.silence(2, 1), 32);
        is("silence(2, 0)", x.silence(2, 0), NONE);
        is("silence(0, 0)", x.silence(0, 0), NOT);
        is("silence(3, 0)", x.silence(3, 0), UNKNOWN);
        is("silence(-1, 0)", x.silence(-1, 0), UNKNOWN);
        is("silence(0, 2)", x.silence(0, 2), UNKNOWN);
        is("silence(0, -1)", x.silence(0, -1), UNKNOWN);
        PleaPapers y = new PleaPapers();
        claim(y, "pay 1 if 0 or 1 and 2");
        claim(y, "pay 1 if 3 and 4 or 5");
        claim(y, "pay 1 if 6 and 0");
        claim(y, "pay 1 if 1 or 7");
        claim(y, "pay 1 if not 0 and not 1");
        paper(y, 0, "say 0,1,2,not 3,not 4,7;");
        paper(y, 0, "admit 0,3;deny 7;say 6;");
        is("the least of the fewest, told as sure", y.silence(0, 1), 3);
        is("of one that is lost", y.silence(1, 1), 24);
        is("of the one side", y.silence(2, 0), NOT);
        paper(y, 0, "admit 6;");
        is("of the one side", y.silence(2, 0), 64);
        is("of the other side", y.silence(2, 1), 1);
        is("not shown ones are open", y.silence(3, 1), 2);
        is("of two sides' facts", y.silence(4, 1), 3);
        is("not by side 0", y.silence(4, 0), NONE);
    }

    private static void proof() {
        about("Promise 17");
        PleaPapers x = new PleaPapers();
        is("proof(2, 0, 0, 0)", x.proof(2, 0, 0, 0), UNKNOWN);
        is("proof(-1, 0, 0, 0)", x.proof(-1, 0, 0, 0), UNKNOWN);
        is("proof(0, 12, 0, 0)", x.proof(0, 12, 0, 0), UNKNOWN);
        is("proof(0, -1, 1001, 0)", x.proof(0, -1, 1001, 0), UNKNOWN);
        is("proof(0, 0, 1001, 0)", x.proof(0, 0, 1001, 0), OUTSIDE);
        is("proof(0, 0, -1, 0)", x.proof(0, 0, -1, 0), OUTSIDE);
        is("proof(0, 0, 0, 100)", x.proof(0, 0, 0, 100), OUTSIDE);
        is("proof(0, 0, 0, -1)", x.proof(0, 0, 0, -1), OUTSIDE);
        for (int k = 0; k < 16; k++) is("proof " + k, x.proof(k & 1, k % 12, 1000 * (k & 1), 99 * (k & 1)), k);
        is("a seventeenth", x.proof(0, 0, 0, 0), FULL);
        is("a seventeenth, out of bounds", x.proof(0, 0, 0, 100), OUTSIDE);
        is("a seventeenth, unknown", x.proof(2, 0, 0, 100), UNKNOWN);
        is("count(2)", x.count(2), 16);
    }

    private static void bring() {
        about("Promise 18");
        PleaPapers x = new PleaPapers();
        is("bring(0, true)", x.bring(0, true), UNKNOWN);
        x.proof(0, 0, 0, 0);
        x.proof(0, 0, 0, 0);
        is("bring(1, true)", x.bring(1, true), 0);
        is("bring(1, true)", x.bring(1, true), 1);
        is("proved(0, 4)", x.proved(0, 4), 0);
        is("bring(1, false)", x.bring(1, false), 1);
        is("bring(1, false)", x.bring(1, false), 0);
        is("bring(2, true)", x.bring(2, true), UNKNOWN);
        is("bring(-1, true)", x.bring(-1, true), UNKNOWN);
    }

    private static void proved() {
        about("Promise 19");
        PleaPapers x = sample();
        x.proof(1, 3, 999, 98);
        int[] due = {1, 3, 999, 98, 0, NONE};
        for (int what = 0; what < 6; what++) is("proved(0, " + what + ")", x.proved(0, what), due[what]);
        x.bring(0, true);
        is("proved(0, 4)", x.proved(0, 4), 1);
        is("proved(0, 6)", x.proved(0, 6), OUTSIDE);
        is("proved(0, -1)", x.proved(0, -1), OUTSIDE);
        is("proved(1, 0)", x.proved(1, 0), UNKNOWN);
        is("proved(-1, 9)", x.proved(-1, 9), UNKNOWN);
        is("for a denied one", bearing(x, 0, 0), 1);
        is("against a denied one", bearing(x, 1, 0), 0);
        is("for a doubted one", bearing(x, 0, 1), 1);
        is("against a doubted one", bearing(x, 1, 1), NONE);
        is("for one that awaits", bearing(x, 0, 4), 1);
        is("against one that awaits", bearing(x, 1, 4), 0);
        is("for side 1's", bearing(x, 1, 2), 1);
        is("against side 1's", bearing(x, 0, 2), 0);
        is("of an admitted one", bearing(x, 0, 5), NONE);
        is("of a free one", bearing(x, 0, 7), NONE);
    }

    private static int bearing(PleaPapers x, int side, int f) {
        return x.proved(x.proof(side, f, 500, 1), 5);
    }

    private static void likely() {
        about("Promise 20");
        PleaPapers x = sample();
        is("likely(12)", x.likely(12), UNKNOWN);
        is("likely(-1)", x.likely(-1), UNKNOWN);
        is("likely(5), admitted", x.likely(5), NOT);
        is("likely(7), free", x.likely(7), NOT);
        is("likely(0)", x.likely(0), 0);
        x.proof(0, 0, 333, 0);
        x.proof(1, 0, 100, 0);
        x.proof(0, 0, 501, 0);
        x.proof(1, 0, 77, 0);
        is("likely(0), none brought", x.likely(0), 0);
        x.bring(0, true);
        is("likely(0)", x.likely(0), 333);
        x.bring(2, true);
        // 667 * 499 / 1000 = 332
        is("likely(0)", x.likely(0), 668);
        x.bring(1, true);
        // 668 * 900 / 1000 = 601
        is("likely(0)", x.likely(0), 601);
        x.bring(3, true);
        // 601 * 923 / 1000 = 554
        is("likely(0)", x.likely(0), 554);
        x.proof(1, 1, 1000, 0);
        x.proof(0, 1, 400, 0);
        x.bring(4, true);
        x.bring(5, true);
        is("likely(1), doubted", x.likely(1), 400);
        x.proof(1, 2, 1000, 0);
        x.bring(6, true);
        is("likely(2)", x.likely(2), 1000);
        x.proof(0, 2, 1000, 0);
        x.bring(7, true);
        is("likely(2)", x.likely(2), 0);
        x.proof(0, 4, 250, 0);
        x.bring(8, true);
        is("likely(4), that awaits", x.likely(4), 250);
    }

    private static void chance() {
        about("Promise 21");
        PleaPapers x = new PleaPapers();
        is("chance(0)", x.chance(0), UNKNOWN);
        claim(x, "pay 10 if 0 and 1 and 2");
        claim(x, "pay 10 if 0 or not 0");
        claim(x, "pay 10 if 3");
        paper(x, 0, "say 0,1,not 2,3;");
        paper(x, 0, "deny 0,1,2;");
        int[] odds = {123, 457, 891};
        for (int k = 0; k < 3; k++) {
            x.proof(0, k, odds[k], 0);
            x.bring(k, true);
        }
        // 1000000 * 123 / 1000 = 123000, * 457 / 1000 = 56211, * 109 / 1000 = 6126
        is("chance(0)", x.chance(0), 6126);
        // what is cut is lost to the sum: one of each of the four ways of facts 0 and 1
        is("chance(1)", x.chance(1), 999996);
        is("chance(2)", x.chance(2), 999996);
        is("chance(-1)", x.chance(-1), UNKNOWN);
        is("chance(3)", x.chance(3), UNKNOWN);
        PleaPapers y = new PleaPapers();
        claim(y, "pay 1 if 0 and 1 and 2");
        claim(y, "pay 1 if 0 and 1 and not 2");
        paper(y, 0, "say 0,1,2;");
        for (int k = 0; k < 3; k++) {
            y.proof(0, k, k < 2 ? 1 : 999, 0);
            y.bring(k, true);
        }
        // 1000000 * 1 / 1000 = 1000, * 1 / 1000 = 1, * 999 / 1000 = 0
        is("chance(0), cut to nothing", y.chance(0), 0);
        is("chance(1), cut to nothing", y.chance(1), 0);
        y.proof(0, 2, 1000, 0);
        y.bring(3, true);
        is("chance(0), a last one", y.chance(0), 1);
    }

    private static void worth() {
        about("Promise 22");
        PleaPapers x = sample();
        is("worth(0)", x.worth(0), -33000);
        is("worth(1)", x.worth(1), 33000);
        is("worth(2)", x.worth(2), UNKNOWN);
        is("worth(-1)", x.worth(-1), UNKNOWN);
        PleaPapers y = new PleaPapers();
        claim(y, "pay 7 if 0");
        claim(y, "owe 7 if 1");
        claim(y, "pay 3 if 0 and 1");
        paper(y, 0, "say 0,1;");
        y.proof(0, 0, 333, 0);
        y.proof(0, 1, 457, 0);
        y.bring(0, true);
        y.bring(1, true);
        // the ways: both 152181, 0 alone 180819, 1 alone 304819; each claim is cut for itself
        is("chance(0)", y.chance(0), 333000);
        is("chance(1)", y.chance(1), 457000);
        is("chance(2)", y.chance(2), 152181);
        is("worth(0)", y.worth(0), 2331 - 3199 + 456);
        is("worth(1)", y.worth(1), -2331 + 3199 - 456);
    }

    private static void best() {
        about("Promise 23");
        PleaPapers x = threeFacts(100, 50, 20);
        x.proof(0, 0, 500, 30);
        x.proof(0, 1, 500, 10);
        x.proof(0, 2, 500, 10);
        x.proof(1, 0, 500, 1);
        is("best(0, 9999, 0), like ones: the cheapest", x.best(0, 9999, 0), 3);
        is("best(0, 9999, 1)", x.best(0, 9999, 1), 75000 - 40000);
        is("best(0, 9999, 2)", x.best(0, 9999, 2), 40);
        is("best(0, 40, 0)", x.best(0, 40, 0), 3);
        is("best(0, 39, 0)", x.best(0, 39, 0), 1);
        is("best(0, 39, 1)", x.best(0, 39, 1), 20000);
        is("best(0, 29, 0)", x.best(0, 29, 0), 2);
        is("best(0, 9, 0)", x.best(0, 9, 0), 0);
        is("best(0, 0, 1)", x.best(0, 0, 1), 0);
        is("best(1, 9999, 0), nothing to be gained yet", x.best(1, 9999, 0), 0);
        x.bring(0, true);
        is("best(0, 10, 0), one is brought", x.best(0, 10, 0), 2);
        is("best(0, 10, 1), what is brought is paid", x.best(0, 10, 1), 65000);
        is("best(1, 1, 0)", x.best(1, 1, 0), 8);
        is("best(1, 1, 1)", x.best(1, 1, 1), -25000 - 1000);
        is("best(1, 0, 0)", x.best(1, 0, 0), 0);
        is("best(2, 0, 0)", x.best(2, 0, 0), UNKNOWN);
        is("best(-1, -1, 0)", x.best(-1, -1, 0), UNKNOWN);
        is("best(0, 10000, 0)", x.best(0, 10000, 0), OUTSIDE);
        is("best(0, -1, 0)", x.best(0, -1, 0), OUTSIDE);
        is("best(0, 0, 3)", x.best(0, 0, 3), OUTSIDE);
        is("best(0, 0, -1)", x.best(0, 0, -1), OUTSIDE);
        is("proved(1, 4), nothing is brought by asking", x.proved(1, 4), 0);
        PleaPapers y = threeFacts(20, 20, 1);
        y.proof(0, 0, 500, 5);
        y.proof(0, 1, 500, 5);
        y.proof(0, 7, 500, 0);
        is("of like ones the least set", y.best(0, 9, 0), 1);
        is("of like ones the least set", y.best(0, 10, 0), 3);
        PleaPapers z = threeFacts(20, 15, 10);
        z.proof(0, 0, 500, 7);
        z.proof(0, 1, 600, 6);
        z.proof(0, 2, 800, 5);
        // each alone leaves 3000
        is("of like ones the cheapest", z.best(0, 7, 0), 4);
        is("of like ones the cheapest", z.best(0, 7, 1), 3000);
        is("of like ones the cheapest", z.best(0, 7, 2), 5);
    }

    private static void bestOfFirstEight() {
        about("Promise 23, the first 8");
        PleaPapers x = threeFacts(100, 50, 20);
        for (int k = 0; k < 8; k++) x.proof(0, 7, 500, 0);
        x.proof(0, 0, 500, 0);
        is("a ninth is not looked at", x.best(0, 9999, 0), 0);
        x.bring(3, true);
        is("a ninth that is an eighth", x.best(0, 9999, 0), 256);
        x.bring(3, false);
        is("game: a ninth", x.game(0, 0), 0);
        for (int k = 0; k < 4; k++) x.bring(k, true);
        is("game: a fifth", x.game(0, 0), 0);
        x.bring(4, true);
        is("game: a fourth", x.game(0, 0), 256);
    }

    private static void game() {
        about("Promise 24");
        PleaPapers x = threeFacts(100, 50, 20);
        x.proof(0, 0, 500, 30);
        x.proof(0, 1, 500, 10);
        x.proof(1, 0, 900, 2);
        x.proof(1, 1, 100, 9);
        is("best(0, 9999, 0)", x.best(0, 9999, 0), 3);
        // fact 0 is worth 50000 less 30000, but 5000 less 30000 behind the other's answer
        is("game(0, 0)", x.game(0, 0), 2);
        is("game(0, 1)", x.game(0, 1), 0);
        is("game(0, 2)", x.game(0, 2), 15000);
        is("game(1, 0)", x.game(1, 0), 4);
        is("game(1, 1)", x.game(1, 1), 2);
        is("game(1, 2)", x.game(1, 2), -25000 - 2000);
        is("game(2, 0)", x.game(2, 0), UNKNOWN);
        is("game(-1, 3)", x.game(-1, 3), UNKNOWN);
        is("game(0, 3)", x.game(0, 3), OUTSIDE);
        is("game(0, -1)", x.game(0, -1), OUTSIDE);
        PleaPapers y = threeFacts(100, 50, 20);
        y.proof(0, 0, 1000, 50);
        y.proof(1, 0, 100, 5);
        y.bring(0, true);
        is("whatever it costs, of like ones the least set", y.game(1, 0), 2);
        y.bring(0, false);
        is("an answer of like ones: the least set", y.game(0, 1), 2);
        PleaPapers z = threeFacts(100, 50, 20);
        z.proof(0, 0, 1000, 0);
        z.proof(1, 0, 100, 10);
        z.proof(1, 0, 200, 19);
        z.proof(1, 0, 150, 14);
        z.proof(1, 0, 500, 20);
        z.proof(1, 0, 999, 0);
        z.bring(0, true);
        is("the greatest of four", z.game(1, 0), 16);
        z.bring(4, true);
        is("the next four", z.game(1, 0), 32);
        is("the next four", z.game(0, 1), 32);
    }

    private static void without() {
        about("Promise 25");
        PleaPapers x = sample();
        is("without(0)", x.without(0), -40000);
        is("without(1)", x.without(1), 107000);
        is("without(2)", x.without(2), -33000);
        is("without(3)", x.without(3), UNKNOWN);
        is("without(-1)", x.without(-1), UNKNOWN);
        is("worth(0), nothing is changed by asking", x.worth(0), -33000);
        is("open()", x.open(), 23);
        PleaPapers y = new PleaPapers();
        claim(y, "pay 10 if 0");
        claim(y, "owe 3 if 1");
        claim(y, "pay 1 if 2");
        paper(y, 0, "say 0;");
        paper(y, 0, "deny 0;say 1;");
        paper(y, 0, "admit 1;take 0;");
        paper(y, 0, "say not 0,2;");
        paper(y, 0, "admit 0,2;");
        is("worth(0)", y.worth(0), -3000 + 1000);
        // 0 is admitted by silence: taking it back and saying it otherwise are passed over, 2 is said
        is("without(1)", y.without(1), 10000 + 1000);
        is("without(0), 0 is said by the other one", y.without(0), -3000 + 1000);
        // 1 is admitted by silence, 0 not taken back
        is("without(2)", y.without(2), -3000 + 1000);
        y.proof(0, 0, 500, 0);
        y.bring(0, true);
        is("without(2), the proof is for it then", y.without(2), 5000 - 3000 + 1000);
        PleaPapers z = new PleaPapers();
        claim(z, "pay 10 if 0");
        claim(z, "pay 1 if 1");
        paper(z, 0, "say 0;");
        paper(z, 50, "deny 0;say 1;");
        paper(z, 50, "say 2;");
        is("those that were late are late still", z.without(2), 10000);
    }

    private static void seed() {
        about("Promise 26");
        PleaPapers x = new PleaPapers();
        is("seed(greatest)", x.seed(Integer.MAX_VALUE), 0);
        is("seed(-1)", x.seed(-1), OUTSIDE);
        is("seed(lowest)", x.seed(Integer.MIN_VALUE), OUTSIDE);
        is("seed(0)", x.seed(0), Integer.MAX_VALUE);
    }

    private static void trial() {
        about("Promise 27");
        PleaPapers x = threeFacts(100, 50, 20);
        claim(x, "owe 7 if not 0");
        x.proof(0, 0, 500, 0);
        x.proof(0, 1, 300, 0);
        x.proof(0, 2, 1000, 0);
        for (int k = 0; k < 3; k++) x.bring(k, true);
        x.seed(42);
        long state = 42;
        int[] likely = {500, 300, 1000};
        int[] coins = {100, 50, 20};
        for (int n = 0; n < 30; n++) {
            int sum = 0;
            for (int f = 0; f < 3; f++) {
                state = (state * 1103515245L + 12345L) % (1L << 31);
                boolean shown = state / 65536 % 1000 < likely[f];
                sum += shown ? coins[f] : f == 0 ? -7 : 0;
            }
            is("trial()", x.trial(), sum);
        }
        is("seed(0)", x.seed(0), (int) state);
        isShownBelow();
        PleaPapers y = new PleaPapers();
        paper(y, 0, "say 3;");
        is("trial() without a claim", y.trial(), 0);
        is("a draw for each open fact all the same", y.seed(0), 12345);
        PleaPapers z = threeFacts(1, 2, 4);
        z.strike();
        z.strike();
        is("trial() without an open fact", z.trial(), 0);
        is("no draw", z.seed(0), 0);
    }

    /** As likely as the draw it is not shown, with a thousandth more it is. */
    private static void isShownBelow() {
        long first = (838383L * 1103515245L + 12345L) % (1L << 31) / 65536 % 1000;
        for (int more = 0; more < 2; more++) {
            PleaPapers x = threeFacts(100, 50, 20);
            x.proof(0, 0, (int) first + more, 0);
            x.bring(0, true);
            x.seed(838383);
            is("trial() at " + more, x.trial(), 100 * more);
        }
    }

    private static void imagesKeepAll() {
        about("Promise 29, all that is kept");
        PleaPapers x = new PleaPapers();
        x.keep(0);
        claim(x, "pay 10 if 0 and not 3");
        claim(x, "owe 4 if 1");
        paper(x, 3, "say 0,1;");
        paper(x, 40, "deny 0;");
        paper(x, 41, "say 3;");
        x.proof(1, 4, 5, 6);
        x.proof(0, 3, 900, 7);
        x.bring(1, true);
        x.keep(1);
        int[] before = all(x);
        is("goBack(0)", x.goBack(0), 1);
        is("count(0)", x.count(0), 0);
        is("count(4)", x.count(4), 12);
        claim(x, "owe 99 if 5 or 6");
        claim(x, "pay 98 if 7 or 8");
        paper(x, 0, "say 5,not 6;");
        paper(x, 1, "deny 5,6;say 7;");
        paper(x, 100, "say 8;take 5;");
        for (int k = 0; k < 3; k++) {
            x.proof(0, 5, 300, 1);
            x.bring(k, true);
        }
        is("goBack(1)", x.goBack(1), 1);
        int[] behind = all(x);
        for (int i = 0; i < before.length; i++) is("what was kept, " + i, behind[i], before[i]);
    }

    /** Answers to questions about all that is kept. */
    private static int[] all(PleaPapers x) {
        java.util.List<Integer> answers = new java.util.ArrayList<>();
        for (int what = 0; what < 9; what++) answers.add(x.count(what));
        for (int c = 0; c < 3; c++) {
            for (int what = 0; what < 3; what++) answers.add(x.told(c, what));
            answers.add(x.chance(c));
            answers.add(x.turns(c));
        }
        for (int p = 0; p < 4; p++) {
            for (int what = 0; what < 4; what++) answers.add(x.heard(p, what));
        }
        for (int k = 0; k < 4; k++) {
            for (int what = 0; what < 6; what++) answers.add(x.proved(k, what));
        }
        answers.add(x.open());
        answers.add(x.worth(0));
        return answers.stream().mapToInt(a -> a).toArray();
    }

    private static void keepAndGoBack() {
        about("Promise 28");
        PleaPapers x = sample();
        is("keep(2)", x.keep(2), UNKNOWN);
        is("keep(-1)", x.keep(-1), UNKNOWN);
        x.proof(0, 0, 500, 0);
        x.due(33);
        x.seed(77);
        is("keep(1)", x.keep(1), 1);
        about("Promise 29");
        is("goBack(0)", x.goBack(0), NOT);
        is("goBack(2)", x.goBack(2), UNKNOWN);
        is("goBack(-1)", x.goBack(-1), UNKNOWN);
        claim(x, "pay 9 if 0");
        paper(x, 99, "take 2;");
        x.proof(0, 1, 1, 1);
        x.bring(0, true);
        x.due(44);
        x.seed(88);
        tell(x, "abc");
        is("keep(0)", x.keep(0), 1);
        is("goBack(1)", x.goBack(1), 1);
        is("count(0)", x.count(0), 3);
        is("count(1)", x.count(1), 3);
        is("count(2)", x.count(2), 1);
        is("count(3), the text stays", x.count(3), 3);
        is("open()", x.open(), 23);
        is("fact(2, 0)", x.fact(2, 0), 3);
        is("proved(0, 4)", x.proved(0, 4), 0);
        is("due(1)", x.due(1), 33);
        is("seed(1)", x.seed(1), 77);
        is("strike()", x.strike(), 2);
        is("goBack(1) once more", x.goBack(1), 1);
        is("count(1)", x.count(1), 3);
        is("due(33)", x.due(33), 33);
        is("goBack(0)", x.goBack(0), 1);
        is("count(0)", x.count(0), 4);
        is("told(3, 0)", x.told(3, 0), 9);
        is("heard(3, 1)", x.heard(3, 1), 1);
        is("fact(2, 0), its taking was late", x.fact(2, 0), 3);
        is("fact(4, 0)", x.fact(4, 0), 2);
        is("proved(0, 4)", x.proved(0, 4), 1);
        is("due(44)", x.due(44), 44);
        is("seed(88)", x.seed(88), 88);
        is("keep(0) anew", x.keep(0), 1);
        x.strike();
        is("goBack(0)", x.goBack(0), 1);
        is("count(1)", x.count(1), 4);
    }

    private static void refusalsChangeNothing() {
        about("Refusals");
        PleaPapers x = sample();
        x.seed(5);
        int before = state(x);
        x.feed(9, 1);
        x.paper(3);
        x.paper(-3);
        x.due(100);
        x.proof(0, 0, 1001, 0);
        x.bring(0, true);
        x.without(9);
        x.seed(-1);
        x.keep(5);
        x.goBack(0);
        x.best(0, -1, 0);
        x.game(5, 0);
        is("what is so", state(x), before);
    }

    private static int state(PleaPapers x) {
        int sum = x.fault();
        for (int what = 0; what < 9; what++) sum = sum * 31 + x.count(what);
        for (int f = 0; f < 12; f++) {
            for (int what = 0; what < 5; what++) sum = sum * 31 + x.fact(f, what);
        }
        int seed = x.seed(0);
        x.seed(seed);
        int due = x.due(50);
        x.due(due);
        return (sum * 31 + seed) * 31 + due;
    }
}
