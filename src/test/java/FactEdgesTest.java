/** The edges that the document names of facts and of what holds: from due to silence, sentence by sentence. */
public final class FactEdgesTest extends Checks {
    private static final int ALL = 4095;

    public static void main(String[] args) {
        nothingThereYet();
        boundsOfDue();
        daysBehindTheOneBefore();
        firstPaperIsNotLate();
        lateIsKept();
        nothingOfALateOneIsHeard();
        textOfALateOne();
        silenceBehindEachPaper();
        whatIsCounted();
        whatIsAskedOfFacts();
        whatIsAskedOfClaims();
        whatIsAskedOfPapers();
        lastPaperIsTaken();
        openFacts();
        asItsWordOrTheOtherWay();
        bitsOfHolds();
        sureAndLost();
        turnsOnFacts();
        enoughOfEight();
        fewestThenLeast();
        neitherSureNorLost();
        lostBySilence();
        lostBySilenceOfAll();
        end();
    }

    private static PleaPapers suit(String... claims) {
        PleaPapers x = new PleaPapers();
        for (String text : claims) claim(x, text);
        return x;
    }

    private static void nothingThereYet() {
        about("PleaPapers(): No CLAIMS, no PAPERS, no PROOFS; a FACT is FREE at first");
        PleaPapers x = new PleaPapers();
        isCounted(x, 0, 0, 0, 0, 12, 0, 0, 0, 0);
        is("fault()", x.fault(), NONE);
        is("open()", x.open(), 0);
        for (int f = 0; f < 12; f++) {
            is("fact(" + f + ", 0)", x.fact(f, 0), 0);
            for (int what = 1; what <= 4; what++) is("fact(" + f + ", " + what + ")", x.fact(f, what), NONE);
        }
        is("told(0, 0)", x.told(0, 0), UNKNOWN);
        is("heard(0, 0)", x.heard(0, 0), UNKNOWN);
        is("proved(0, 0)", x.proved(0, 0), UNKNOWN);
        is("due(20)", x.due(20), 20);
        is("seed(0)", x.seed(0), 0);
        is("strike()", x.strike(), NOT);
        is("goBack(0)", x.goBack(0), NOT);
        is("goBack(1)", x.goBack(1), NOT);
    }

    // ---- due and late

    private static void boundsOfDue() {
        about("due: 1 .. 99, what it was, 20 at first; OUTSIDE");
        for (int v : new int[] {Integer.MIN_VALUE, -99, -1, 0, 100, 101, Integer.MAX_VALUE}) {
            PleaPapers x = new PleaPapers();
            is("due(" + v + ")", x.due(v), OUTSIDE);
            is("due(5): 20 at first", x.due(5), 20);
            is("due(" + v + ")", x.due(v), OUTSIDE);
            is("due(5)", x.due(5), 5);
        }
        PleaPapers x = new PleaPapers();
        is("due(1)", x.due(1), 20);
        is("due(2)", x.due(2), 1);
        is("due(98)", x.due(98), 2);
        is("due(99)", x.due(99), 98);
        is("due(99)", x.due(99), 99);
    }

    /** Behind a paper of that day, with that due: how many days behind it another one is late at first. */
    private static void daysBehindTheOneBefore() {
        about("DUE is how many DAYS behind the one before a PAPER may come; one that comes later is LATE");
        for (int due : new int[] {1, 2, 19, 20, 21, 98, 99}) {
            for (int first : new int[] {0, 500, 999 - due - 1}) {
                for (int behind : new int[] {0, 1, due - 1, due, due + 1}) {
                    PleaPapers x = new PleaPapers();
                    x.due(due);
                    x.paper(first);
                    is("paper", x.paper(first + behind), 1);
                    is(behind + " days behind, due " + due, x.heard(1, 1), behind > due ? 1 : 0);
                }
            }
        }
        PleaPapers x = new PleaPapers();
        x.paper(0);
        x.paper(20);
        x.paper(41);
        x.paper(61);
        x.paper(999);
        x.paper(999);
        int[] late = {0, 0, 1, 0, 1, 0};
        for (int p = 0; p < late.length; p++) is("heard(" + p + ", 1)", x.heard(p, 1), late[p]);
        PleaPapers y = new PleaPapers();
        y.due(1);
        y.paper(0);
        is("at once from 0 to 999", y.paper(999), 1);
        is("heard(1, 1)", y.heard(1, 1), 1);
    }

    private static void firstPaperIsNotLate() {
        about("the first PAPER has none before it");
        for (int day : new int[] {0, 20, 21, 999}) {
            PleaPapers x = new PleaPapers();
            paper(x, day, "say 3;");
            is("heard(0, 1) of day " + day, x.heard(0, 1), 0);
            is("fact(3, 0)", x.fact(3, 0), 1);
            x.strike();
            paper(x, day, "say 4;");
            is("heard(0, 1), once more", x.heard(0, 1), 0);
        }
    }

    private static void lateIsKept() {
        about("due: for PAPERS that come");
        PleaPapers x = new PleaPapers();
        paper(x, 0, "say 3;");
        paper(x, 21, "deny 3;");
        x.due(99);
        is("heard(1, 1)", x.heard(1, 1), 1);
        is("fact(3, 0)", x.fact(3, 0), 2);
        x.paper(120);
        x.due(1);
        is("heard(2, 1)", x.heard(2, 1), 0);
        x.strike();
        x.strike();
        x.due(21);
        paper(x, 21, "deny 3;");
        is("heard(1, 1), told once more", x.heard(1, 1), 0);
        is("fact(3, 0)", x.fact(3, 0), 3);
    }

    private static void nothingOfALateOneIsHeard() {
        about("LATE: nothing of it is heard, the silence counts");
        PleaPapers x = new PleaPapers();
        paper(x, 0, "say 0,1,2,3;");
        paper(x, 1, "deny 0;doubt 1;say 4;");
        is("a late one", paper(x, 22, "take 0,1;deny 4;say 5;"), 2);
        is("heard(2, 1)", x.heard(2, 1), 1);
        is("nothing is taken", x.fact(0, 0), 3);
        is("nothing is taken", x.fact(1, 0), 4);
        is("nothing is said", x.fact(5, 0), 0);
        is("what was denied is admitted", x.fact(4, 0), 2);
        is("by this paper", x.fact(4, 4), 2);
        is("heard(2, 3)", x.heard(2, 3), 16);
        is("what it had said may be said", paper(x, 22, "say 5;"), 3);
        is("a late one that admits", paper(x, 43, "admit 5;"), 4);
        is("is silent", x.heard(4, 3), 32);
        PleaPapers y = new PleaPapers();
        paper(y, 0, "say 0;");
        is("a late one that doubts", paper(y, 21, "doubt 0;"), 1);
        is("fact(0, 0)", y.fact(0, 0), 2);
    }

    private static void textOfALateOne() {
        about("LATE: its text must be without FAULT all the same");
        PleaPapers x = new PleaPapers();
        paper(x, 0, "say 0;");
        is("fault 1", paper(x, 999, "x"), -11);
        is("fault 2", paper(x, 999, "say 12;"), -12);
        is("fault 3", paper(x, 999, "say 1;say 2;"), -13);
        is("fault 4", paper(x, 999, "say 1,1;"), -14);
        is("fault 5", paper(x, 999, "say 0;"), -15);
        is("fault()", x.fault(), 4);
        is("count(1)", x.count(1), 1);
        is("fact(0, 0)", x.fact(0, 0), 1);
        is("without fault", paper(x, 999, "say 1;deny 0;"), 1);
        is("heard(1, 1)", x.heard(1, 1), 1);
        is("its facts", x.heard(1, 2), 3);
        is("its day counts", x.paper(998), NOT);
    }

    private static void silenceBehindEachPaper() {
        about("behind each PAPER all FACTS that were SAID ahead of it by the other SIDE and AWAIT still are ADMITTED");
        PleaPapers x = new PleaPapers();
        x.paper(0);
        is("heard(0, 3): nothing was said", x.heard(0, 3), 0);
        paper(x, 0, "say " + items(ALL) + ";");
        is("its own facts await", x.count(5), 12);
        is("heard(1, 3)", x.heard(1, 3), 0);
        x.paper(0);
        is("all of them are admitted", x.count(6), 12);
        is("heard(2, 3)", x.heard(2, 3), ALL);
        x.paper(0);
        is("heard(3, 3): none awaits", x.heard(3, 3), 0);
        is("heard(2, 3) still", x.heard(2, 3), ALL);
        PleaPapers y = new PleaPapers();
        paper(y, 0, "say 0,1,2,3;");
        paper(y, 0, "admit 0;deny 1;doubt 2;");
        is("not those that were answered", y.heard(1, 3), 8);
        y.strike();
        is("fact(3, 0)", y.fact(3, 0), 1);
    }

    // ---- what is asked

    private static void whatIsCounted() {
        about("count: what 0 .. 8, OUTSIDE");
        PleaPapers x = new PleaPapers();
        for (int what : new int[] {Integer.MIN_VALUE, -2, -1, 9, 10, Integer.MAX_VALUE}) {
            is("count(" + what + ")", x.count(what), OUTSIDE);
        }
        isCounted(x, 0, 0, 0, 0, 12, 0, 0, 0, 0);
        paper(x, 0, "say " + items(ALL) + ";");
        isCounted(x, 0, 1, 0, 0, 0, 12, 0, 0, 0);
        paper(x, 0, "admit " + items(ALL) + ";");
        isCounted(x, 0, 2, 0, 0, 0, 0, 12, 0, 0);
        x.strike();
        paper(x, 0, "deny " + items(ALL) + ";");
        isCounted(x, 0, 2, 0, 0, 0, 0, 0, 12, 0);
        x.strike();
        paper(x, 0, "doubt " + items(ALL) + ";");
        isCounted(x, 0, 2, 0, 0, 0, 0, 0, 0, 12);
        for (int c = 0; c < 6; c++) claim(x, "pay 1 if 1");
        for (int p = 2; p < 10; p++) x.paper(0);
        for (int k = 0; k < 16; k++) x.proof(0, 0, 0, 0);
        tell(x, times("x", 160));
        isCounted(x, 6, 10, 16, 160, 0, 0, 0, 0, 12);
    }

    private static void isCounted(PleaPapers x, int... due) {
        for (int what = 0; what < due.length; what++) is("count(" + what + ")", x.count(what), due[what]);
    }

    private static void whatIsAskedOfFacts() {
        about("fact: UNKNOWN, OUTSIDE; NONE of 1 to 4, if there is none");
        PleaPapers x = sample();
        for (int what = 0; what <= 4; what++) {
            for (int f : new int[] {Integer.MIN_VALUE, -1, 12, 13, 32, Integer.MAX_VALUE}) {
                is("fact(" + f + ", " + what + ")", x.fact(f, what), UNKNOWN);
            }
            is("fact(11, " + what + "), free", x.fact(11, what), what == 0 ? 0 : NONE);
        }
        for (int what : new int[] {Integer.MIN_VALUE, -1, 5, 6, Integer.MAX_VALUE}) {
            is("fact(0, " + what + ")", x.fact(0, what), OUTSIDE);
            is("fact(11, " + what + ")", x.fact(11, what), OUTSIDE);
        }
        is("fact(4, 4): none has answered it", x.fact(4, 4), NONE);
        is("fact(6, 1): 'not' so", x.fact(6, 1), 0);
        paper(x, 25, "doubt 4;take 2;");
        is("fact(4, 4)", x.fact(4, 4), 3);
        for (int what = 0; what <= 4; what++) {
            is("fact(2, " + what + "), taken back", x.fact(2, what), what == 0 ? 0 : NONE);
        }
        paper(x, 25, "say not 2,not 11;");
        int[] said = {1, 0, 0, 4, NONE};
        for (int what = 0; what <= 4; what++) {
            is("fact(2, " + what + "), said anew", x.fact(2, what), said[what]);
            is("fact(11, " + what + ")", x.fact(11, what), said[what]);
        }
    }

    private static void whatIsAskedOfClaims() {
        about("told: UNKNOWN, OUTSIDE");
        PleaPapers none = new PleaPapers();
        PleaPapers x = sample();
        for (int what = 0; what <= 2; what++) {
            is("told(0, " + what + "): there is no claim", none.told(0, what), UNKNOWN);
            for (int c : new int[] {Integer.MIN_VALUE, -1, 3, 4, 6, Integer.MAX_VALUE}) {
                is("told(" + c + ", " + what + ")", x.told(c, what), UNKNOWN);
            }
        }
        for (int what : new int[] {Integer.MIN_VALUE, -1, 3, 4, Integer.MAX_VALUE}) {
            is("told(0, " + what + ")", x.told(0, what), OUTSIDE);
            is("told(2, " + what + ")", x.told(2, what), OUTSIDE);
        }
        PleaPapers full = suit("pay 1 if 0", "owe 2 if 1", "pay 3 if 2", "owe 4 if 3", "pay 998 if 4", "owe 999 if 11");
        is("told(5, 0)", full.told(5, 0), -999);
        is("told(5, 1)", full.told(5, 1), 2048);
        is("told(6, 0)", full.told(6, 0), UNKNOWN);
        isClaimOfAllFacts();
    }

    private static void isClaimOfAllFacts() {
        PleaPapers x = suit("pay 1 if 0 or 1 or 2 or 3 or 4 or 5 or 6 or 7 or 8 or 9 or 10 or 11");
        is("told(0, 1)", x.told(0, 1), ALL);
        is("told(0, 2)", x.told(0, 2), 0);
        for (int f = 0; f < 12; f++) {
            paper(x, 0, "say " + f + ";");
            x.paper(0);
            is("told(0, 2), of fact " + f, x.told(0, 2), 1);
            x.strike();
            is("told(0, 2), as it awaits", x.told(0, 2), NONE);
            x.strike();
        }
    }

    private static void whatIsAskedOfPapers() {
        about("heard: UNKNOWN, OUTSIDE");
        PleaPapers none = new PleaPapers();
        PleaPapers x = sample();
        for (int what = 0; what <= 3; what++) {
            is("heard(0, " + what + "): there is no paper", none.heard(0, what), UNKNOWN);
            for (int p : new int[] {Integer.MIN_VALUE, -1, 3, 4, 10, Integer.MAX_VALUE}) {
                is("heard(" + p + ", " + what + ")", x.heard(p, what), UNKNOWN);
            }
        }
        for (int what : new int[] {Integer.MIN_VALUE, -1, 4, 5, Integer.MAX_VALUE}) {
            is("heard(0, " + what + ")", x.heard(0, what), OUTSIDE);
            is("heard(2, " + what + ")", x.heard(2, what), OUTSIDE);
        }
        for (int p = 3; p < 10; p++) x.paper(100 + p);
        is("heard(9, 0)", x.heard(9, 0), 109);
        is("heard(9, 2)", x.heard(9, 2), 0);
        is("heard(10, 0)", x.heard(10, 0), UNKNOWN);
        x.strike();
        is("heard(9, 0), taken away", x.heard(9, 0), UNKNOWN);
        PleaPapers all = new PleaPapers();
        paper(all, 0, "say " + items(ALL) + ";");
        is("heard(0, 2): all facts", all.heard(0, 2), ALL);
    }

    // ---- strike

    private static void lastPaperIsTaken() {
        about("strike: the last PAPER is taken away; NOT: there is none");
        PleaPapers x = new PleaPapers();
        is("there is none", x.strike(), NOT);
        is("there is none still", x.strike(), NOT);
        is("count(1)", x.count(1), 0);
        for (int p = 0; p < 10; p++) paper(x, p, p % 2 == 0 ? "say " + p + ";" : "deny " + (p - 1) + ";");
        for (int left = 9; left >= 0; left--) {
            is("strike()", x.strike(), left);
            is("count(1)", x.count(1), left);
            is("heard(" + left + ", 0)", x.heard(left, 0), UNKNOWN);
            is("count(4)", x.count(4), 12 - (left + 1) / 2);
            is("count(5)", x.count(5), left % 2);
            is("count(7)", x.count(7), left / 2);
        }
        is("strike()", x.strike(), NOT);
        about("strike: CLAIMS, PROOFS, DUE, THE SEED stay");
        PleaPapers y = sample();
        y.proof(1, 2, 3, 4);
        y.bring(0, true);
        y.due(33);
        y.seed(44);
        tell(y, "abc");
        for (int p = 0; p < 3; p++) y.strike();
        is("told(1, 0)", y.told(1, 0), -40);
        is("proved(0, 2)", y.proved(0, 2), 3);
        is("proved(0, 4)", y.proved(0, 4), 1);
        is("count(3)", y.count(3), 3);
        is("due(1)", y.due(1), 33);
        is("seed(1)", y.seed(1), 44);
        about("strike: FACTS are as they were ahead of it");
        PleaPapers z = new PleaPapers();
        paper(z, 0, "say not 3;");
        paper(z, 0, "doubt 3;");
        paper(z, 0, "take 3;");
        is("fact(3, 0)", z.fact(3, 0), 0);
        z.strike();
        int[] due = {4, 0, 0, 0, 1};
        for (int what = 0; what < 5; what++) is("fact(3, " + what + ")", z.fact(3, what), due[what]);
    }

    // ---- what holds

    private static void openFacts() {
        about("open: OPEN FACTS (DENIED, DOUBTED, those that AWAIT behind the last PAPER)");
        PleaPapers x = new PleaPapers();
        is("of none", x.open(), 0);
        paper(x, 0, "say 0,11;");
        is("the first and the last, that await", x.open(), 2049);
        paper(x, 0, "deny 0;doubt 11;say 1,2,3,4,5,6,7,8,9,10;");
        is("all of them", x.open(), ALL);
        x.paper(0);
        is("those that were admitted are not", x.open(), 2049);
        PleaPapers y = new PleaPapers();
        paper(y, 0, "say not 0,1,2;");
        is("whatever the word", y.open(), 7);
        paper(y, 0, "deny 0;doubt 1;admit 2;");
        is("not by an admission", y.open(), 3);
        paper(y, 0, "take 0;");
        is("not those that were taken back", y.open(), 2);
        y.strike();
        y.strike();
        is("as they were", y.open(), 7);
        y.strike();
        is("no paper", y.open(), 0);
    }

    private static void asItsWordOrTheOtherWay() {
        about("SHOWN an OPEN FACT is as its WORD, else the other way; FREE ones are not so; ADMITTED ones as said");
        for (int f = 0; f < 12; f++) {
            for (int word = 0; word < 2; word++) {
                PleaPapers x = suit("pay 1 if " + f, "pay 1 if not " + f);
                is("free", x.holds(0, 0), 0);
                is("free", x.holds(1, 0), 1);
                paper(x, 0, (word == 1 ? "say " : "say not ") + f + ";");
                is("not shown", x.holds(0, 0), 1 - word);
                is("shown", x.holds(0, 1 << f), word);
                is("not shown", x.holds(1, 0), word);
                is("shown", x.holds(1, 1 << f), 1 - word);
                x.paper(0);
                is("admitted", x.holds(0, 0), word);
                is("admitted", x.holds(1, 0), 1 - word);
                is("admitted ones are not open", x.holds(0, 1 << f), UNKNOWN);
            }
        }
    }

    private static void bitsOfHolds() {
        about("holds: UNKNOWN (bits of such as are not OPEN, too)");
        PleaPapers none = new PleaPapers();
        is("there is no claim", none.holds(0, 0), UNKNOWN);
        PleaPapers x = sample();
        for (int c : new int[] {Integer.MIN_VALUE, -1, 3, 4, 6, Integer.MAX_VALUE}) {
            is("holds(" + c + ", 0)", x.holds(c, 0), UNKNOWN);
        }
        is("of no fact", x.holds(0, 0), 0);
        is("of all open ones", x.holds(0, 23), 0);
        int least = Integer.MIN_VALUE;
        for (int set : new int[] {least, least | 3, -1, 4096, 4096 + 3, 1 << 30, Integer.MAX_VALUE}) {
            is("holds(0, " + set + ")", x.holds(0, set), UNKNOWN);
        }
        for (int bit = 0; bit < 32; bit++) {
            boolean isOpen = bit < 12 && (23 >> bit & 1) == 1;
            is("holds(1, bit " + bit + ")", x.holds(1, 1 << bit), isOpen ? 1 : UNKNOWN);
            is("holds(1, bit " + bit + " and open ones)", x.holds(1, 1 << bit | 23), isOpen ? 1 : UNKNOWN);
        }
        PleaPapers all = suit("pay 1 if 0 and 11");
        paper(all, 0, "say " + items(ALL) + ";");
        is("holds(0, all)", all.holds(0, ALL), 1);
        is("holds(0, all and one more)", all.holds(0, ALL + 4096), UNKNOWN);
        is("holds(0, the first and the last)", all.holds(0, 2049), 1);
        is("holds(0, all but the last)", all.holds(0, 2047), 0);
    }

    private static void sureAndLost() {
        about("SURE, if it HOLDS by all WAYS, LOST, if by none");
        String every = "0 and 1 and 2 and 3 and 4 and 5 and 6 and 7 and 8 and 9 and 10 and 11";
        PleaPapers x = suit("pay 1 if " + every, "owe 1 if not(" + every + ")", "pay 1 if 0 or not 0",
            "owe 1 if 11 and not 11");
        int[] atFirst = {0, 1, 1, 0};
        for (int c = 0; c < 4; c++) is("told(" + c + ", 2): one way, no fact is open", x.told(c, 2), atFirst[c]);
        paper(x, 0, "say " + items(ALL) + ";");
        int[] byOne = {NONE, NONE, 1, 0};
        for (int c = 0; c < 4; c++) is("told(" + c + ", 2): all but one of 4096 ways", x.told(c, 2), byOne[c]);
        x.paper(0);
        int[] admitted = {1, 0, 1, 0};
        for (int c = 0; c < 4; c++) is("told(" + c + ", 2): all admitted", x.told(c, 2), admitted[c]);
    }

    private static void turnsOnFacts() {
        about("turns: FACTS on which a CLAIM TURNS; UNKNOWN");
        is("there is no claim", new PleaPapers().turns(0), UNKNOWN);
        String every = "0 and 1 and 2 and 3 and 4 and 5 and 6 and 7 and 8 and 9 and 10 and 11";
        PleaPapers x = suit("pay 1 if " + every, "pay 1 if 3 or not 3", "pay 1 if not 11");
        for (int c : new int[] {Integer.MIN_VALUE, -1, 3, 6, Integer.MAX_VALUE}) {
            is("turns(" + c + ")", x.turns(c), UNKNOWN);
        }
        for (int c = 0; c < 3; c++) is("turns(" + c + "): no fact is open", x.turns(c), 0);
        paper(x, 0, "say 0,1,2,3,4,5,6,7,8,9,10,not 11;");
        is("on all of them, by one way each", x.turns(0), ALL);
        is("on none", x.turns(1), 0);
        is("the other way round", x.turns(2), 2048);
        x.strike();
        paper(x, 0, "say 0,1,2,3,4,5,6,7,8,9,10;");
        is("not with a free one", x.turns(0), 0);
        for (int f = 0; f < 12; f++) {
            int other = (f + 5) % 12;
            PleaPapers y = suit("pay 1 if " + f + " and " + other, "pay 1 if " + f + " or " + other);
            paper(y, 0, "say " + other + ";");
            is(f + " is free", y.turns(0), 0);
            is(f + " is free", y.turns(1), 1 << other);
            y.strike();
            paper(y, 0, "say " + f + ";");
            paper(y, 0, "say " + other + ";");
            is(f + " is admitted", y.turns(0), 1 << other);
            is(f + " is admitted", y.turns(1), 0);
        }
    }

    private static void enoughOfEight() {
        about("enough: UNKNOWN, NOT: more than 8 FACTS are OPEN");
        is("there is no claim", new PleaPapers().enough(0), UNKNOWN);
        for (int open = 0; open <= 12; open++) {
            PleaPapers x = suit("pay 1 if 0", "pay 1 if not 0 or 0", "pay 1 if 0 and not 0");
            if (open > 0) paper(x, 0, "say " + items((1 << open) - 1) + ";");
            if (open == 12) paper(x, 0, "deny " + items(ALL) + ";");
            boolean many = open > 8;
            is("enough(0), " + open + " are open", x.enough(0), many ? NOT : open > 0 ? 1 : NONE);
            is("enough(1), " + open + " are open", x.enough(1), many ? NOT : 0);
            is("enough(2), " + open + " are open", x.enough(2), many ? NOT : NONE);
            for (int c : new int[] {Integer.MIN_VALUE, -1, 3, 6, Integer.MAX_VALUE}) {
                is("enough(" + c + "), " + open + " are open", x.enough(c), UNKNOWN);
            }
        }
        PleaPapers x = suit("pay 1 if 4 and 5 and 6 and 7 and 8 and 9 and 10 and 11");
        paper(x, 0, "say 4,5,6,7,8,9,10,11;");
        is("all eight", x.enough(0), ALL - 15);
        paper(x, 0, "deny 4,5,6,7,8,9,10;say 0,1;");
        is("nine", x.enough(0), NOT);
        is("told(0, 2)", x.told(0, 2), NONE);
        x.paper(0);
        is("admitted ones are no more open", x.enough(0), ALL - 15 - 2048);
    }

    private static void fewestThenLeast() {
        about("enough: the SET of the fewest FACTS, of like ones the least; NONE");
        PleaPapers x = suit("pay 1 if 0 and 1 or 7", "pay 1 if 6 and 7 or 0 and 5 or 1 and 2",
            "pay 1 if not 7 and not 3", "pay 1 if 11", "pay 1 if not 11", "pay 1 if 0 or not 0 and 1");
        paper(x, 0, "say 0,1,2,not 3,4,5,6,7;");
        is("one ahead of a lesser set of two", x.enough(0), 128);
        is("of three sets of two the least", x.enough(1), 6);
        is("shown it is as its word: none", x.enough(2), NONE);
        is("none of one that is lost", x.enough(3), NONE);
        is("the empty set of one that is sure", x.enough(4), 0);
        is("not by the way alone in which just these are shown", x.enough(5), 1);
    }

    // ---- lost by silence

    private static void neitherSureNorLost() {
        about("silence: UNKNOWN, NOT: the CLAIM is neither SURE nor LOST");
        PleaPapers none = new PleaPapers();
        is("there is no claim", none.silence(0, 0), UNKNOWN);
        PleaPapers x = sample();
        for (int off : new int[] {Integer.MIN_VALUE, -1, 3, 6, Integer.MAX_VALUE}) {
            is("silence(" + off + ", 0)", x.silence(off, 0), UNKNOWN);
            is("silence(" + off + ", 1)", x.silence(off, 1), UNKNOWN);
        }
        for (int off : new int[] {Integer.MIN_VALUE, -1, 2, 3, Integer.MAX_VALUE}) {
            is("silence(2, " + off + ")", x.silence(2, off), UNKNOWN);
            is("silence(0, " + off + "), that is not sure", x.silence(0, off), UNKNOWN);
        }
        is("silence(0, 0)", x.silence(0, 0), NOT);
        is("silence(0, 1)", x.silence(0, 1), NOT);
        PleaPapers y = suit("pay 1 if 3");
        is("lost, nothing was admitted", y.silence(0, 0), NONE);
        paper(y, 0, "say 3;");
        is("open", y.silence(0, 1), NOT);
        y.paper(0);
        is("sure", y.silence(0, 1), 8);
        is("by the other side", y.silence(0, 0), NONE);
        for (int f = 0; f < 12; f++) {
            PleaPapers z = suit("pay 1 if " + f, "pay 1 if not " + f, "pay 1 if " + (f + 1) % 12);
            paper(z, 0, "say " + f + ";");
            z.paper(0);
            is("sure, of fact " + f, z.silence(0, 1), 1 << f);
            is("lost, of fact " + f, z.silence(1, 1), 1 << f);
            is("lost, not by fact " + f, z.silence(2, 1), NONE);
            for (int c = 0; c < 3; c++) is("by the other side, of fact " + f, z.silence(c, 0), NONE);
        }
    }

    private static void lostBySilence() {
        about("LOST BY SILENCE: the SET of the fewest FACTS, of like ones the least SET; NONE");
        PleaPapers x = suit("pay 1 if 0 and 1 or 11", "pay 1 if 2 or 3 and 4", "pay 1 if not 2 and not 3",
            "pay 1 if 7 or not 7", "pay 1 if 5", "pay 1 if 0 or 6");
        paper(x, 0, "say 0,1,2,3,4,5,11,6;");
        paper(x, 0, "admit 0,1,2,3,5;doubt 6;");
        is("by word and by silence: two, the least", x.silence(0, 1), 2049);
        is("two, the least of two sets", x.silence(1, 1), 12);
        is("of one that is lost: both", x.silence(2, 1), 12);
        is("whatever is denied", x.silence(3, 1), NONE);
        is("one", x.silence(4, 1), 32);
        is("not one that is open already", x.silence(5, 1), 1);
        for (int c = 0; c < 6; c++) is("silence(" + c + ", 0)", x.silence(c, 0), NONE);
        PleaPapers y = suit("pay 1 if 0 and 1 and 2", "pay 1 if 3 or 0");
        paper(y, 0, "say 0,not 1,2;");
        y.paper(0);
        is("of one that is lost, by a word 'not'", y.silence(0, 1), 2);
        is("fewest ahead of least", y.silence(1, 1), 1);
        PleaPapers z = suit("pay 1 if 0 and 1 or 11 and 10 or 3");
        paper(z, 0, "say 3;");
        paper(z, 0, "say 10,11;admit 3;");
        z.paper(0);
        is("sides apart: not by what side 0 admitted alone", z.silence(0, 0), NONE);
        is("nor by what side 1 admitted alone", z.silence(0, 1), NONE);
    }

    private static void lostBySilenceOfAll() {
        about("LOST BY SILENCE: of all twelve FACTS");
        String any = "0 or 1 or 2 or 3 or 4 or 5 or 6 or 7 or 8 or 9 or 10 or 11";
        PleaPapers x = suit("pay 1 if " + any, "pay 1 if not(" + any + ")");
        paper(x, 0, "say " + items(ALL) + ";");
        x.paper(0);
        is("all twelve", x.silence(0, 1), ALL);
        is("all twelve, of one that is lost", x.silence(1, 1), ALL);
        is("none of the other side", x.silence(0, 0), NONE);
        PleaPapers y = suit("pay 1 if not(" + any + ")");
        paper(y, 0, "say " + items(ALL) + ";");
        paper(y, 0, "admit " + items(ALL - 1) + ";deny 0;");
        is("eleven, where one is open", y.silence(0, 1), ALL - 1);
    }
}
