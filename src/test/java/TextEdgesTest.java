/** The edges that the document names of texts: of feed, claim, paper, fault and the faults, sentence by sentence. */
public final class TextEdgesTest extends Checks {
    private static final String[] TOKENS = {"pay", "owe", "if", "and", "or", "not", "say", "admit", "deny", "doubt",
        "take", "x", "zz", "(", ")", ",", ";", ":", "-", "1", "011", "12", "1234"};
    private static final String EVERY_NUMBER = "1 011 12 1234";

    public static void main(String[] args) {
        bytesOfFeed();
        orderOfBytes();
        fullText();
        textOfClaimIsEmptyThen();
        textOfPaperIsEmptyThen();
        longestClaim();
        mostClaims();
        claimsThatAreRefusedKeepTheText();
        longestPaper();
        mostPapers();
        daysOfPapers();
        papersThatAreRefusedKeepTheText();
        coins();
        factsOfClaims();
        factsOfPapers();
        figures();
        letters();
        blanks();
        blanksBetween();
        everyByteOfClaims();
        everyByteOfPapers();
        tokensOfClaims();
        tokensOfPapers();
        firstFault();
        leastFault();
        faultAtTheEnd();
        eightOpenAtOnce();
        notIsOpenAsLongAsItsN();
        eachKindOnce();
        eachFactOnce();
        whatAFactMustBe();
        withoutClauses();
        faultPlace();
        end();
    }

    // ---- what is due of a text

    private static void isPaper(String text, int facts) {
        PleaPapers x = new PleaPapers();
        is("paper of '" + text + "'", paper(x, 0, text), 0);
        is("fault of '" + text + "'", x.fault(), NONE);
        is("heard(0, 2) of '" + text + "'", x.heard(0, 2), facts);
    }

    private static void isPaperFault(String text, int number, int place) {
        isPaperFault(new PleaPapers(), 0, text, number, place);
    }

    // ---- feed

    private static void bytesOfFeed() {
        about("feed: n 1 .. 8, OUTSIDE");
        PleaPapers x = new PleaPapers();
        for (int n : new int[] {Integer.MIN_VALUE, -1, 0, 9, 10, Integer.MAX_VALUE}) {
            is("feed(" + n + ", 0)", x.feed(n, 0), OUTSIDE);
            is("count(3) behind feed(" + n + ", 0)", x.count(3), 0);
        }
        int length = 0;
        for (int n = 1; n <= 8; n++) {
            length += n;
            is("feed(" + n + ", 0)", x.feed(n, 0), length);
        }
        is("feed(8, least)", x.feed(8, Long.MIN_VALUE), length + 8);
        is("feed(8, greatest)", x.feed(8, Long.MAX_VALUE), length + 16);
        is("count(3)", x.count(3), length + 16);
    }

    /** One byte that cannot stand there among blanks tells by its place where each byte comes. */
    private static void orderOfBytes() {
        about("feed: the n lowest bytes of a long, the highest of these first");
        for (int n = 1; n <= 8; n++) {
            for (int k = 0; k < 8; k++) {
                for (long sign : new long[] {0, 127, 128, 255}) {
                    PleaPapers x = new PleaPapers();
                    long bytes = 0x2020202020202020L & ~(255L << 8 * k) | sign << 8 * k;
                    x.feed(n, bytes);
                    is("paper of feed(" + n + ", " + bytes + ")", x.paper(0), k < n ? -11 : 0);
                    is("fault of feed(" + n + ", " + bytes + ")", x.fault(), k < n ? n - 1 - k : NONE);
                }
            }
        }
        is("the least long begins with 128", faultOf(8, Long.MIN_VALUE | 0x20202020202020L), 0);
        is("its seven lowest bytes", faultOf(7, Long.MIN_VALUE | 0x20202020202020L), NONE);
        is("the greatest long's lowest byte", faultOf(1, Long.MAX_VALUE), 0);
        is("-1", faultOf(1, -1L), 0);
        PleaPapers x = new PleaPapers();
        x.feed(8, bytes("pay 12 i"));
        x.feed(3, bytes("qqqqqf 1"));
        is("behind what there is", x.claim(), 0);
        is("told(0, 0)", x.told(0, 0), 12);
    }

    private static int faultOf(int n, long bytes) {
        PleaPapers x = new PleaPapers();
        x.feed(n, bytes);
        x.paper(0);
        return x.fault();
    }

    private static void fullText() {
        about("feed: FULL (160)");
        for (int n = 1; n <= 8; n++) {
            PleaPapers x = new PleaPapers();
            tell(x, times(" ", 161 - n));
            is("feed(" + n + ", 0) to 161", x.feed(n, 0), FULL);
            is("count(3)", x.count(3), 161 - n);
            for (int less = 1; less < n; less++) {
                PleaPapers y = new PleaPapers();
                tell(y, times(" ", 160 - less));
                is("feed(" + less + ", 0) to 160", y.feed(less, 0), 160);
                is("feed(" + less + ", 0) behind it", y.feed(less, 0), FULL);
                is("count(3)", y.count(3), 160);
            }
        }
        PleaPapers x = new PleaPapers();
        tell(x, times(" ", 160));
        for (int n = 1; n <= 8; n++) is("feed(" + n + ", -1) of a full text", x.feed(n, -1), FULL);
        is("paper(0): what was refused is not there", x.paper(0), 0);
        is("the text is empty then, it may be filled again", x.feed(8, 0), 8);
    }

    private static void textOfClaimIsEmptyThen() {
        about("claim: THE TEXT is empty then, with a FAULT, too");
        PleaPapers x = new PleaPapers();
        is("claim of an empty text", x.claim(), -11);
        is("fault()", x.fault(), 0);
        is("claim", claim(x, "pay 1 if 1"), 0);
        is("count(3)", x.count(3), 0);
        is("claim with a fault", claim(x, "pay 1 if 1 x and much more"), -11);
        is("count(3) behind it", x.count(3), 0);
        is("nothing of it is left", claim(x, "owe 2 if 2"), 1);
        is("told(1, 0)", x.told(1, 0), -2);
        is("told(1, 1)", x.told(1, 1), 4);
        is("claim of an empty text", x.claim(), -11);
        is("fault()", x.fault(), 0);
    }

    private static void textOfPaperIsEmptyThen() {
        about("paper: THE TEXT is empty then, with a FAULT, too");
        PleaPapers x = new PleaPapers();
        is("paper", paper(x, 0, "say 1;"), 0);
        is("count(3)", x.count(3), 0);
        is("paper with a fault", paper(x, 0, "deny 1; deny 2, and much more"), -13);
        is("count(3) behind it", x.count(3), 0);
        is("nothing of it is left", paper(x, 0, "deny 1;"), 1);
        is("heard(1, 2)", x.heard(1, 2), 2);
        is("an empty one", x.paper(0), 2);
        is("heard(2, 2)", x.heard(2, 2), 0);
    }

    // ---- bounds of claims and papers

    private static void longestClaim() {
        about("claim: texts of 120 bytes at most, NOT: more than 120 bytes");
        StringBuilder longest = new StringBuilder("pay 1 if 0");
        for (int i = 1; i <= 22; i++) longest.append(" or ").append(i % 10);
        is("length", longest.length(), 120);
        isClaim(longest.toString(), 1, 1023);
        isClaim(filled("pay 999 if 11", 119), 999, 2048);
        isClaim(filled("pay 999 if 11", 120), 999, 2048);
        isClaim(times(" ", 110) + "owe 1 if 0", -1, 1);
        isClaimFault(times(" ", 120), 1, 120);
        isClaimFault(filled("pay 999 if 11 and", 120), 1, 120);
        isClaimFault(filled("pay 999 if", 119) + "x", 1, 119);
        for (int length : new int[] {121, 122, 128, 159, 160}) {
            PleaPapers x = new PleaPapers();
            is("claim of " + length + " bytes", claim(x, filled("pay 999 if 11", length)), NOT);
            is("count(3)", x.count(3), length);
            is("count(0)", x.count(0), 0);
            is("fault()", x.fault(), NONE);
        }
        isClaim("pay1if0" + times("or1", 37), 1, 3);
        isClaim("pay1if" + times("(", 8) + "0" + times(")", 8) + times("and(not(1))", 8), 1, 3);
    }

    private static void mostClaims() {
        about("claim: 6 at most, FULL");
        PleaPapers x = new PleaPapers();
        for (int c = 0; c < 6; c++) {
            is("told(" + c + ", 0) ahead of it", x.told(c, 0), UNKNOWN);
            is("one with a fault does not count", claim(x, "x"), -11);
            is("claim " + c, claim(x, "pay " + (c + 1) + " if " + c), c);
            is("told(" + c + ", 0)", x.told(c, 0), c + 1);
            is("count(0)", x.count(0), c + 1);
        }
        is("a seventh", claim(x, "pay 7 if 7"), FULL);
        is("a seventh again", x.claim(), FULL);
        is("count(0)", x.count(0), 6);
        is("told(6, 0)", x.told(6, 0), UNKNOWN);
        is("told(5, 0)", x.told(5, 0), 6);
        PleaPapers y = new PleaPapers();
        for (int c = 0; c < 6; c++) claim(y, "pay 1 if 1");
        is("a seventh, of an empty text", y.claim(), FULL);
        is("a seventh, with a fault", claim(y, "x"), FULL);
        is("fault() is of the sixth", y.fault(), NONE);
    }

    private static void claimsThatAreRefusedKeepTheText() {
        about("claim: THE TEXT stays, of both NOT and FULL");
        PleaPapers x = new PleaPapers();
        is("claim of 121 bytes", claim(x, filled("say 3;", 121)), NOT);
        is("the text is a paper's", x.paper(0), 0);
        is("heard(0, 2)", x.heard(0, 2), 8);
        for (int c = 0; c < 6; c++) claim(x, "pay 1 if 1");
        is("a seventh", claim(x, "deny 3;"), FULL);
        is("count(3)", x.count(3), 7);
        is("the text is a paper's", x.paper(0), 1);
        is("heard(1, 2)", x.heard(1, 2), 8);
        tell(x, filled("take 3;", 121));
        is("NOT ahead of FULL", x.claim(), NOT);
        is("the text is a paper's", x.paper(0), 2);
        is("fact(3, 0)", x.fact(3, 0), 0);
    }

    private static void longestPaper() {
        about("paper: texts of 160 bytes at most");
        String longest = "say not 000,not 001,not 002,not 003,not 004,not 005,not 006,not 007,not 008,not 009,not 010";
        isPaper(longest + ",not 011;", 4095);
        isPaper(filled(longest + " , not 011", 159) + ";", 4095);
        isPaper(times(" ", 154) + "say 5;", 32);
        isPaper(filled("say 5;", 121), 32);
        isPaperFault(filled("say 5", 160), 1, 160);
        isPaperFault(filled("say 5;", 159) + "x", 1, 159);
        isPaperFault(filled("say 5;", 157) + "say", 3, 157);
        isPaperFault(filled("say 5,", 159) + "5", 4, 159);
        isPaperFault(filled("deny", 159) + "5", 5, 159);
        isPaperFault(filled("deny", 158) + "12", 2, 158);
    }

    private static void mostPapers() {
        about("paper: 10 at most, FULL; the n-th by SIDE n left over by 2");
        PleaPapers x = new PleaPapers();
        for (int p = 0; p < 10; p++) {
            is("heard(" + p + ", 0) ahead of it", x.heard(p, 0), UNKNOWN);
            is("one with a fault does not count", paper(x, 999, "x"), -11);
            is("paper " + p, paper(x, p, "say " + p + ";"), p);
            is("fact(" + p + ", 2)", x.fact(p, 2), p % 2);
            is("fact(" + p + ", 3)", x.fact(p, 3), p);
            is("count(1)", x.count(1), p + 1);
        }
        is("an eleventh", paper(x, 9, "say 10;"), FULL);
        is("an eleventh again", x.paper(999), FULL);
        is("count(1)", x.count(1), 10);
        is("heard(10, 0)", x.heard(10, 0), UNKNOWN);
        is("fact(10, 0)", x.fact(10, 0), 0);
        is("strike()", x.strike(), 9);
        is("a tenth again", x.paper(9), 9);
        is("fact(10, 3)", x.fact(10, 3), 9);
        is("fact(9, 0)", x.fact(9, 0), 0);
        is("an eleventh, of an empty text", x.paper(9), FULL);
        is("an eleventh, with a fault", paper(x, 9, "x"), FULL);
        is("fault() is of the tenth", x.fault(), NONE);
    }

    private static void daysOfPapers() {
        about("paper: DAYS 0 .. 999, OUTSIDE; they do not fall, NOT");
        for (int day : new int[] {Integer.MIN_VALUE, -1000, -1, 1000, 1001, Integer.MAX_VALUE}) {
            is("paper(" + day + ")", new PleaPapers().paper(day), OUTSIDE);
        }
        for (int day : new int[] {0, 1, 998, 999}) {
            PleaPapers x = new PleaPapers();
            is("a first paper(" + day + ")", x.paper(day), 0);
            is("heard(0, 0)", x.heard(0, 0), day);
            if (day > 0) is("paper(" + (day - 1) + ")", x.paper(day - 1), NOT);
            if (day > 0) is("paper(0)", x.paper(0), NOT);
            is("paper(-1)", x.paper(-1), OUTSIDE);
            is("paper(1000)", x.paper(1000), OUTSIDE);
            is("the same day", x.paper(day), 1);
            is("paper(999)", x.paper(999), 2);
            is("paper(998)", x.paper(998), NOT);
            is("heard(2, 0)", x.heard(2, 0), 999);
        }
        PleaPapers x = new PleaPapers();
        is("one with a fault", paper(x, 500, "x"), -11);
        is("its day is not kept", x.paper(7), 0);
        x.paper(500);
        is("earlier than a late one", x.paper(499), NOT);
        x.strike();
        is("not earlier than the one before", x.paper(7), 1);
        x.strike();
        x.strike();
        is("there is none before", x.paper(0), 0);
    }

    private static void papersThatAreRefusedKeepTheText() {
        about("paper: THE TEXT stays, of OUTSIDE, NOT and FULL");
        PleaPapers x = new PleaPapers();
        is("paper(-1)", paper(x, -1, "say 5;"), OUTSIDE);
        is("paper(1000)", x.paper(1000), OUTSIDE);
        is("count(3)", x.count(3), 6);
        is("paper(8)", x.paper(8), 0);
        is("heard(0, 2)", x.heard(0, 2), 32);
        is("paper(7)", paper(x, 7, "deny 5;"), NOT);
        is("count(3)", x.count(3), 7);
        is("paper(8)", x.paper(8), 1);
        is("fact(5, 0)", x.fact(5, 0), 3);
        for (int p = 2; p < 10; p++) x.paper(8);
        is("paper(8)", paper(x, 8, "pay 9 if 9"), FULL);
        is("the text is a claim's", x.claim(), 0);
        is("told(0, 0)", x.told(0, 0), 9);
    }

    // ---- numbers, words, blanks

    private static void coins() {
        about("S coins (1 .. 999)");
        isClaimFault("pay 0 if 1", 2, 4);
        isClaimFault("pay 00 if 1", 2, 4);
        isClaimFault("owe 000 if 1", 2, 4);
        isClaim("pay 1 if 1", 1, 2);
        isClaim("owe 1 if 1", -1, 2);
        isClaim("owe 01 if 1", -1, 2);
        isClaim("pay 001 if 1", 1, 2);
        isClaim("pay 998 if 1", 998, 2);
        isClaim("pay 999 if 1", 999, 2);
        isClaim("owe 999 if 1", -999, 2);
        isClaimFault("pay 1000 if 1", 2, 4);
        isClaimFault("owe 9999 if 1", 2, 4);
    }

    private static void factsOfClaims() {
        about("F (a FACT, 0 .. 11)");
        isClaim("pay 1 if 0", 1, 1);
        isClaim("pay 1 if 00", 1, 1);
        isClaim("pay 1 if 000", 1, 1);
        for (int f = 1; f < 12; f++) isClaim("pay 1 if " + f, 1, 1 << f);
        isClaim("pay 1 if 011", 1, 2048);
        for (String f : new String[] {"12", "012", "13", "99", "100", "999", "0000", "0011", "4294967296"}) {
            isClaimFault("pay 1 if " + f, 2, 9);
            isClaimFault("pay 1 if not (11 or " + f + ")", 2, 20);
        }
    }

    private static void factsOfPapers() {
        about("item = F | 'not' F, F 0 .. 11");
        for (int f = 0; f < 12; f++) {
            isPaper("say " + f + ";", 1 << f);
            isPaper("say not " + f + ";", 1 << f);
        }
        isPaper("say 011;", 2048);
        for (String f : new String[] {"12", "012", "99", "999", "0000", "0011", "4294967296"}) {
            isPaperFault("say " + f + ";", 2, 4);
            isPaperFault("say 1,not " + f + ";", 2, 10);
            for (String clause : new String[] {"admit ", "deny ", "doubt ", "take "}) {
                isPaperFault(clause + f + ";", 2, clause.length());
            }
        }
    }

    private static void figures() {
        about("NUMBERS have one to three figures; FAULT 2: four figures or more, at its first");
        isClaim("pay 5 if 5", 5, 32);
        isClaim("pay 55 if 05", 55, 32);
        isClaim("pay 555 if 005", 555, 32);
        isClaimFault("pay 0555 if 5", 2, 4);
        isClaimFault("pay 5 if 0005", 2, 9);
        isClaimFault("pay 00000000000000000000000000000000000005 if 5", 2, 4);
        isClaimFault("pay 2147483648 if 5", 2, 4);
        isClaimFault("pay 4294967301 if 5", 2, 4);
        isClaimFault("pay " + times("1", 116), 2, 4);
        isPaperFault("say " + times("0", 156), 2, 4);
        isPaperFault("say 0000;", 2, 4);
        isPaper("say 000;", 1);
    }

    private static void letters() {
        about("words are letters a .. z side by side");
        isClaimFault("pax 5 if 1", 1, 0);
        isClaimFault("payy 5 if 1", 1, 0);
        isClaimFault("pa 5 if 1", 1, 0);
        isClaimFault("p ay 5 if 1", 1, 0);
        isClaimFault("owed 5 if 1", 1, 0);
        isClaimFault("PAY 5 if 1", 1, 0);
        isClaimFault("pAy 5 if 1", 1, 0);
        isClaimFault("pay` 5 if 1", 1, 3);
        isClaimFault("pay{ 5 if 1", 1, 3);
        isClaimFault("pay@ 5 if 1", 1, 3);
        isClaimFault("pay[ 5 if 1", 1, 3);
        isClaimFault("paya 5 if 1", 1, 0);
        isClaimFault("payz 5 if 1", 1, 0);
        isPaperFault("says 1;", 1, 0);
        isPaperFault("sa 1;", 1, 0);
        isPaperFault("say{1;", 1, 3);
        isPaperFault("sayz 1;", 1, 0);
        isPaperFault("Say 1;", 1, 0);
        isPaperFault("say nota 1;", 1, 4);
        isPaperFault("say no 1;", 1, 4);
        isClaimFault("pay 5 if no 1", 1, 9);
        isClaimFault("pay 5 i 1", 1, 6);
        isClaimFault("pay 5 if 1 an 2", 1, 11);
        isClaimFault("pay 5 if 1 o 2", 1, 11);
        isClaimFault("pay 5 if 1 orr 2", 1, 11);
    }

    private static void blanks() {
        about("blanks (32) may stand anywhere but within words and NUMBERS");
        isClaim("   pay   7   if   (   not   0   )   and   11   ", 7, 2049);
        isPaper("   say   0   ,   not   11   ;   ", 2049);
        isClaimFault("pa y 5 if 1", 1, 0);
        isClaimFault("pay 5 5 if 1", 1, 6);
        isClaimFault("pay 5 i f 1", 1, 6);
        isClaimFault("pay 5 if 1 1", 1, 11);
        isClaimFault("pay 5 if n ot 1", 1, 9);
        isPaperFault("s ay 1;", 1, 0);
        isPaperFault("say 1 0;", 1, 6);
        isPaperFault("say no t 1;", 1, 4);
        for (char sign : new char[] {0, 9, 10, 13, 31, 33, 127, 128, 160, 255}) {
            isClaimFault("pay 5 if 1" + sign, 1, 10);
            isClaimFault("pay" + sign + "5 if 1", 1, 3);
            isPaperFault("say 1;" + sign, 1, 6);
            isPaperFault(sign + "say 1;", 1, 0);
        }
    }

    private static void blanksBetween() {
        about("two words, two NUMBERS side by side need one");
        isClaim("pay7if(not(0)and11or(1))", 7, 2051);
        isClaim("pay7if0and1or2and not 3", 7, 15);
        isClaim("pay7if not not not 0", 7, 1);
        isClaimFault("pay7ifnot 0", 1, 4);
        isClaimFault("pay7if0andnot 1", 1, 7);
        isClaimFault("pay7if notnot 0", 1, 7);
        isClaimFault("payowe7if 0", 1, 0);
        isPaper("say0,not 1,not2,11;", 2055);
        isPaperFault("saynot 0;", 1, 0);
        isPaperFault("say notnot 0;", 1, 4);
        PleaPapers x = new PleaPapers();
        paper(x, 0, "say0,1,2;");
        is("clauses side by side", paper(x, 0, "admit0;deny1;doubt2;say3;"), 1);
        is("fact(2, 0)", x.fact(2, 0), 4);
    }

    // ---- what may stand where

    /** Places in claims: what stands ahead, then what may stand there ('1' for a number, '.' for the end). */
    private static final String[][] CLAIM_PLACES = {
        {"", "pay owe"},
        {"pay ", "1 011 12"},
        {"owe ", "1 011 12"},
        {"pay 5 ", "if"},
        {"pay 5 if ", "not ( 1 011"},
        {"pay 5 if not ", "not ( 1 011"},
        {"pay 5 if (", "not ( 1 011"},
        {"pay 5 if 1 ", "and or ."},
        {"pay 5 if not 1 ", "and or ."},
        {"pay 5 if (1 ", "and or )"},
        {"pay 5 if (not 1 ", "and or )"},
        {"pay 5 if (1) ", "and or ."},
        {"pay 5 if ((1) ", "and or )"},
        {"pay 5 if 1 and ", "not ( 1 011"},
        {"pay 5 if 1 or ", "not ( 1 011"},
        {"pay 5 if (1 or ", "not ( 1 011"},
        {"pay 5 if 1 and 2 ", "and or ."},
        {"pay 5 if 1 or 2 ", "and or ."},
    };

    /** The same in papers. */
    private static final String[][] PAPER_PLACES = {
        {"", "say admit deny doubt take ."},
        {"say ", "not 1 011"},
        {"say not ", "1 011"},
        {"say 0 ", ", ;"},
        {"say not 0 ", ", ;"},
        {"say 0,", "not 1 011"},
        {"say 0,2 ", ", ;"},
        {"admit ", "1 011"},
        {"deny ", "1 011"},
        {"doubt ", "1 011"},
        {"take ", "1 011"},
        {"say 0;", "say admit deny doubt take ."},
    };

    private static boolean hasToken(String tokens, String token) {
        return java.util.List.of(tokens.split(" ")).contains(token);
    }

    /** Which fault stands at this place if the token comes next there: 0 none. */
    private static int faultHere(String may, String token) {
        boolean isNumber = hasToken(EVERY_NUMBER, token);
        if (isNumber ? !hasToken(may, "1") : !hasToken(may, token)) return 1;
        return isNumber && !hasToken(may, token) ? 2 : 0;
    }

    /** What may stand there can still have fault 3, 4 or 5: a clause told again, a FACT that must not be there. */
    private static void isAt(PleaPapers x, String text, int answer, int place, int number) {
        if (number != 0) {
            is("answer to '" + text + "'", answer, -10 - number);
            is("fault of '" + text + "'", x.fault(), place);
        } else {
            is("'" + text + "' is read on", x.fault() != place || answer < -12 ? 1 : 0, 1);
        }
    }

    private static void tokensOfClaims() {
        about("FAULT 1 of claims: it cannot stand there (a word that cannot: at its first letter)");
        for (String[] place : CLAIM_PLACES) {
            for (String token : TOKENS) {
                PleaPapers x = new PleaPapers();
                String text = place[0] + token + " ";
                isAt(x, text, claim(x, text), place[0].length(), faultHere(place[1], token));
            }
            PleaPapers x = new PleaPapers();
            is("claim of '" + place[0] + "'", claim(x, place[0]), hasToken(place[1], ".") ? 0 : -11);
            is("fault of '" + place[0] + "'", x.fault(), hasToken(place[1], ".") ? NONE : place[0].length());
        }
    }

    private static void tokensOfPapers() {
        about("FAULT 1 of papers: it cannot stand there (a word that cannot: at its first letter)");
        for (String[] place : PAPER_PLACES) {
            for (String token : TOKENS) {
                PleaPapers x = new PleaPapers();
                String text = place[0] + token + " ";
                isAt(x, text, paper(x, 0, text), place[0].length(), faultHere(place[1], token));
            }
            PleaPapers x = new PleaPapers();
            is("paper of '" + place[0] + "'", paper(x, 0, place[0]), hasToken(place[1], ".") ? 0 : -11);
            is("fault of '" + place[0] + "'", x.fault(), hasToken(place[1], ".") ? NONE : place[0].length());
        }
    }

    private static boolean isSignThatMay(String may, int sign) {
        boolean isFigure = sign >= '0' && sign <= '9';
        return sign == ' ' || (isFigure ? hasToken(may, "1") : hasToken(may, "" + (char) sign) && sign != '.');
    }

    private static void everyByteOfClaims() {
        about("FAULT 1 of claims, for each of the 256 bytes");
        for (String[] place : CLAIM_PLACES) {
            for (int sign = 0; sign < 256; sign++) {
                if (isSignThatMay(place[1], sign)) continue;
                isClaimFault(place[0] + (char) sign, 1, place[0].length());
            }
        }
    }

    private static void everyByteOfPapers() {
        about("FAULT 1 of papers, for each of the 256 bytes");
        for (String[] place : PAPER_PLACES) {
            for (int sign = 0; sign < 256; sign++) {
                if (isSignThatMay(place[1], sign)) continue;
                isPaperFault(place[0] + (char) sign, 1, place[0].length());
            }
        }
    }

    // ---- which fault, and where

    private static void firstFault() {
        about("FAULTS, at the first byte that has one");
        isClaimFault("pay 0 if 12 x", 2, 4);
        isClaimFault("pay 5 of 12", 1, 6);
        isClaimFault("pay 5 if 12 x", 2, 9);
        isClaimFault("pay 5 if " + times("(", 8) + "12 and " + times("(", 9), 2, 17);
        isClaimFault("pay 5 if " + times("(", 9) + "12", 3, 17);
        isClaimFault("pay 5 if 1 x " + times("not ", 9), 1, 11);
        isPaperFault("say 0,0,12;", 4, 6);
        isPaperFault("say 0,12,0;", 2, 6);
        isPaperFault("say 0;take 0;say 0;", 4, 11);
        isPaperFault("say 0;say 0;take 0;", 3, 6);
        isPaperFault("deny 3,3;", 5, 5);
        isPaperFault("say 0;deny 3;x", 5, 11);
        isPaperFault("x;deny 3;", 1, 0);
    }

    private static void leastFault() {
        about("FAULTS at one byte: of these the least");
        isClaimFault("1234", 1, 0);
        isClaimFault("pay 5 1234", 1, 6);
        isClaimFault("pay 5 if 1 1234", 1, 11);
        isClaimFault("pay 5 if 1 12", 1, 11);
        isClaimFault("pay 5 if " + times("(", 8) + "1(", 1, 18);
        isClaimFault("pay 5 if " + times("not ", 8) + "1 not 1", 1, 43);
        isPaperFault("say 0 1234;", 1, 6);
        isPaperFault("say 0 0;", 1, 6);
        isPaperFault("say 0,say 1;", 1, 6);
        isPaperFault("say say 1;", 1, 4);
        isPaperFault("say 0 say 1;", 1, 6);
        PleaPapers x = new PleaPapers();
        paper(x, 0, "say 0;");
        isPaperFault(x, 0, "deny 0;take 0;", 4, 12);
        isPaperFault(x, 0, "deny 0,0;", 4, 7);
        isPaperFault(x, 0, "take 12;", 2, 5);
    }

    private static void faultAtTheEnd() {
        about("FAULTS: the end at the text's length");
        String[] claims = {"", " ", "pay", "pay ", "pay 5", "pay 5 if", "pay 5 if  ", "pay 5 if not", "pay 5 if (",
            "pay 5 if (1", "pay 5 if (1 ", "pay 5 if 1 and", "pay 5 if 1 or ", "pay 5 if ((1)"};
        for (String text : claims) isClaimFault(text, 1, text.length());
        String[] papers = {"say", "say ", "say not", "say 0", "say 0 ", "say 0,", "say 0, ", "say 0;admit", "take  "};
        for (String text : papers) isPaperFault(text, 1, text.length());
    }

    private static void eightOpenAtOnce() {
        about("FAULT 3 of claims: a 'not' or '(' that would be the ninth one open at once");
        for (int nots = 0; nots <= 9; nots++) {
            String before = "pay 5 if " + times("not ", nots) + times("(", 8 - Math.min(8, nots));
            if (nots <= 8) isClaim(before + "1" + times(")", 8 - nots), 5, 2);
            if (nots <= 8) isClaimFault(before + "(1", 3, before.length());
            if (nots <= 8) isClaimFault(before + "not 1", 3, before.length());
            if (nots == 9) isClaimFault(before + "1", 3, before.length() - 4);
        }
        isClaimFault("pay 5 if " + times("(", 100), 3, 17);
        isClaimFault("pay 5 if " + times("not ", 27), 3, 41);
        isClaimFault("pay 5 if (((((((( x", 1, 18);
        isClaim("pay 5 if " + times("(", 7) + "1" + times(")", 7), 5, 2);
        isClaimFault("pay 5 if " + times("(", 8) + "1" + times(")", 9), 1, 26);
    }

    private static void notIsOpenAsLongAsItsN() {
        about("a 'not' is open as long as its N is");
        String eight = times("not ", 8);
        isClaim("pay 5 if " + eight + "1 and " + eight + "2 or " + eight + "3", 5, 14);
        isClaimFault("pay 5 if " + eight + "1 and " + eight + "not 2", 3, 9 + 32 + 6 + 32);
        isClaim("pay 5 if not (((((((1)))))))and((((((((2))))))))", 5, 6);
        isClaim("pay 5 if (not 1 and not 2 and (((((((3))))))))", 5, 14);
        isClaimFault("pay 5 if (not 1 and not ((((((((3", 3, 30);
        isClaimFault("pay 5 if not (1 or not ((((((((3", 3, 28);
        isClaimFault("pay 5 if not (1 or (((((((3", 3, 25);
        isClaim("pay 5 if not (1 or ((((((3)))))))", 5, 10);
        isClaim("pay 5 if ((((((((1))))))))or not ((((((( 2 )))))))", 5, 6);
    }

    private static void eachKindOnce() {
        about("FAULT 3 of papers: a clause that was told already, at its first letter");
        PleaPapers x = new PleaPapers();
        paper(x, 0, "say 0,1,2,3,4,5;");
        isPaperFault(x, 0, "say 6;say 7;", 3, 6);
        isPaperFault(x, 0, "admit 0;admit 1;", 3, 8);
        isPaperFault(x, 0, "deny 0; deny 1;", 3, 8);
        isPaperFault(x, 0, "doubt 0;say 6;doubt 1;", 3, 14);
        is("kinds once each", paper(x, 0, "say 6;admit 0;deny 1,2;doubt 3,4;"), 1);
        isPaperFault(x, 0, "take 1;take 2;", 3, 7);
        isPaperFault(x, 0, "say 7;admit 6;take 1;say 8;", 3, 21);
        is("take, once", paper(x, 0, "take 1,2;say 7;admit 6;"), 2);
        is("another paper may have each kind again", paper(x, 0, "say 1;admit 7;"), 3);
    }

    private static void eachFactOnce() {
        about("FAULT 4 of papers: a FACT again in the text, at its NUMBER");
        isPaperFault("say 0,1,0;", 4, 8);
        isPaperFault("say 0,00;", 4, 6);
        isPaperFault("say 11,not 011;", 4, 11);
        isPaperFault("say not 0,0;", 4, 10);
        PleaPapers x = new PleaPapers();
        paper(x, 0, "say 0,1,11;");
        String[] clauses = {"say", "admit", "deny", "doubt", "take"};
        for (String first : new String[] {"admit", "deny", "doubt"}) {
            for (String then : clauses) {
                if (then.equals(first)) continue;
                String text = first + " 11;" + then + " ";
                isPaperFault(x, 0, text + "11;", 4, text.length());
            }
        }
        is("other facts", paper(x, 0, "admit 0;deny 1;doubt 11;"), 1);
        isPaperFault(x, 0, "take 1;say 1;", 4, 11);
        is("the same facts in another paper", paper(x, 0, "take 1,11;"), 2);
    }

    /** It is side 0's turn; of the facts all stand otherwise. */
    private static PleaPapers allStands() {
        PleaPapers x = new PleaPapers();
        paper(x, 0, "say 1,2,3,9;");
        paper(x, 0, "admit 1;deny 2,9;doubt 3;say 4,5,6;");
        paper(x, 0, "admit 4;deny 5;doubt 6;take 9;");
        paper(x, 0, "say 7;");
        return x;
    }

    private static void whatAFactMustBe() {
        about("FAULT 5 of papers, at its NUMBER");
        int[] stands = {0, 2, 3, 4, 2, 3, 4, 1, 0, 0};
        for (int f = 0; f < stands.length; f++) is("fact(" + f + ", 0)", allStands().fact(f, 0), stands[f]);
        String[] clauses = {"say ", "say not ", "admit ", "deny ", "doubt ", "take "};
        int say = 1 << 0 | 1 << 8 | 1 << 9 | 1 << 10 | 1 << 11;
        int answer = 1 << 7;
        int take = 1 << 2 | 1 << 3;
        int[] may = {say, say, answer, answer, answer, take};
        for (int i = 0; i < clauses.length; i++) {
            for (int f = 0; f < 12; f++) {
                PleaPapers x = allStands();
                if ((may[i] >> f & 1) == 1) {
                    is("paper of '" + clauses[i] + f + ";'", paper(x, 0, clauses[i] + f + ";"), 4);
                    is("fault()", x.fault(), NONE);
                } else {
                    isPaperFault(x, 0, clauses[i] + f + ";", 5, clauses[i].length());
                }
            }
        }
        isPaperFault(allStands(), 0, "say 0,8,9,10,11;admit 7;take 2,1;", 5, 31);
        PleaPapers x = new PleaPapers();
        paper(x, 0, "say 0;");
        paper(x, 0, "say 1;");
        isPaperFault(x, 0, "deny 1,0;", 5, 7);
        isPaperFault(x, 0, "take 0;", 5, 5);
        isPaperFault(x, 0, "take 1;", 5, 5);
    }

    private static void withoutClauses() {
        about("a PAPER without clauses has no FAULT");
        isPaper("", 0);
        isPaper(" ", 0);
        isPaper(times(" ", 160), 0);
        isPaperFault(";", 1, 0);
        isPaperFault(" ;", 1, 1);
        PleaPapers x = new PleaPapers();
        paper(x, 0, "say 0,11;");
        is("an empty paper", x.paper(0), 1);
        is("heard(1, 3): silence alone", x.heard(1, 3), 2049);
    }

    private static void faultPlace() {
        about("fault: of the latest claim() or paper() that was not refused otherwise; NONE");
        PleaPapers x = new PleaPapers();
        is("at first", x.fault(), NONE);
        x.claim();
        is("of an empty claim", x.fault(), 0);
        claim(x, "pay 5 if 1");
        is("of a good claim", x.fault(), NONE);
        paper(x, 0, "say 0");
        is("of a paper", x.fault(), 5);
        x.paper(1000);
        is("behind OUTSIDE", x.fault(), 5);
        x.paper(3);
        is("of a good paper", x.fault(), NONE);
        claim(x, "pay 5 if");
        is("of a claim", x.fault(), 8);
        x.paper(2);
        is("behind NOT", x.fault(), 8);
        tell(x, times(" ", 121));
        x.claim();
        is("behind NOT of a claim", x.fault(), 8);
        for (int p = 1; p < 10; p++) x.paper(3);
        is("of a good paper", x.fault(), NONE);
        claim(x, "x");
        is("of a claim", x.fault(), 0);
        x.paper(3);
        is("behind FULL", x.fault(), 0);
        for (int c = 1; c < 6; c++) claim(x, "pay 5 if 1");
        is("of a good claim", x.fault(), NONE);
        x.claim();
        is("behind FULL of a claim", x.fault(), NONE);
        PleaPapers y = new PleaPapers();
        paper(y, 0, "x");
        for (int c = 0; c < 6; c++) claim(y, "pay 5 if 1");
        paper(y, 0, "deny 3;");
        is("of a paper", y.fault(), 5);
        y.claim();
        is("behind FULL of a claim", y.fault(), 5);
        paper(y, 0, filled("say", 160));
        is("the end of a full text", y.fault(), 160);
    }
}
