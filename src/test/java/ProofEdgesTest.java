/** The edges that the document names of proofs, trials and images: from proof to goBack, sentence by sentence. */
public final class ProofEdgesTest extends Checks {
    private static final int ALL = 4095;
    private static final int[] NOT_A_SIDE = {Integer.MIN_VALUE, -2, -1, 2, 3, Integer.MAX_VALUE};
    private static final int[] NOT_A_FACT = {Integer.MIN_VALUE, -2, -1, 12, 13, 32, Integer.MAX_VALUE};

    public static void main(String[] args) {
        boundsOfProofs();
        mostProofs();
        whatIsBrought();
        whatIsAskedOfProofs();
        forAndAgainst();
        likelyOfWhat();
        likelyFromNothingToAll();
        likelyIsCutInOrder();
        chanceOfWhat();
        chanceFromNothingToAMillion();
        chanceIsCutInOrder();
        chanceByAllWays();
        worthOfWhat();
        worthIsCutTowardsZero();
        bestOfWhat();
        bestOfNone();
        bestCostsJustSoMany();
        bestOfTheFirstEight();
        bestOfLikeOnes();
        gameOfWhat();
        gameOfTheFirstFour();
        gameWhateverItCosts();
        gameOfLikeOnes();
        withoutWhat();
        withoutTheFirstAndTheLast();
        passedOverItemByItem();
        lateStillSo();
        boundsOfSeed();
        drawsWrapAround();
        shownIfBelowLikely();
        drawsInOrder();
        trialOfNothing();
        imagesThereAre();
        imagesKept();
        imagesNumberByNumber();
        imagesOfFullSuits();
        whatImagesDoNotKeep();
        fiveHundredAndTwelveCalls();
        end();
    }

    /** A proof that is brought. */
    private static void brought(PleaPapers x, int side, int f, int odds) {
        x.bring(x.proof(side, f, odds, 0), true);
    }

    // ---- proof, bring, proved

    private static void boundsOfProofs() {
        about("proof: of a SIDE, of a FACT, odds 0 .. 1000, cost 0 .. 99; UNKNOWN, OUTSIDE");
        PleaPapers x = new PleaPapers();
        for (int side : NOT_A_SIDE) is("proof of side " + side, x.proof(side, 0, 0, 0), UNKNOWN);
        for (int f : NOT_A_FACT) is("proof of fact " + f, x.proof(0, f, 0, 0), UNKNOWN);
        for (int odds : new int[] {Integer.MIN_VALUE, -1000, -1, 1001, 1002, Integer.MAX_VALUE}) {
            is("proof of odds " + odds, x.proof(0, 0, odds, 0), OUTSIDE);
        }
        for (int cost : new int[] {Integer.MIN_VALUE, -99, -1, 100, 101, Integer.MAX_VALUE}) {
            is("proof of cost " + cost, x.proof(0, 0, 0, cost), OUTSIDE);
        }
        is("count(2)", x.count(2), 0);
        int[][] good = {{0, 0, 0, 0}, {1, 11, 1000, 99}, {0, 11, 999, 98}, {1, 0, 1, 1}, {0, 1, 1000, 0}};
        for (int k = 0; k < good.length; k++) {
            is("proof " + k, x.proof(good[k][0], good[k][1], good[k][2], good[k][3]), k);
            for (int what = 0; what < 4; what++) {
                is("proved(" + k + ", " + what + ")", x.proved(k, what), good[k][what]);
            }
            is("proved(" + k + ", 4): not BROUGHT at first", x.proved(k, 4), 0);
        }
    }

    private static void mostProofs() {
        about("PROOFS (16 at most): FULL");
        PleaPapers x = new PleaPapers();
        for (int k = 0; k < 16; k++) {
            is("proved(" + k + ", 0) ahead of it", x.proved(k, 0), UNKNOWN);
            is("bring(" + k + ", true) ahead of it", x.bring(k, true), UNKNOWN);
            is("proof " + k, x.proof(k % 2, k % 12, 60 * k, 6 * k), k);
            is("proved(" + k + ", 2)", x.proved(k, 2), 60 * k);
        }
        is("a seventeenth", x.proof(0, 0, 0, 0), FULL);
        is("a seventeenth again", x.proof(1, 11, 1000, 99), FULL);
        is("count(2)", x.count(2), 16);
        is("proved(15, 3)", x.proved(15, 3), 90);
        is("proved(16, 0)", x.proved(16, 0), UNKNOWN);
        is("bring(16, true)", x.bring(16, true), UNKNOWN);
        is("bring(15, true)", x.bring(15, true), 0);
        is("bring(0, true)", x.bring(0, true), 0);
        is("bring(15, false)", x.bring(15, false), 1);
        is("bring(0, false)", x.bring(0, false), 1);
    }

    private static void whatIsBrought() {
        about("bring: what it was (1, 0); UNKNOWN");
        PleaPapers none = new PleaPapers();
        is("there is no proof", none.bring(0, true), UNKNOWN);
        is("there is no proof", none.bring(0, false), UNKNOWN);
        PleaPapers x = new PleaPapers();
        for (int k = 0; k < 3; k++) x.proof(0, 0, 0, 0);
        for (int off : new int[] {Integer.MIN_VALUE, -1, 3, 4, 16, 31, 32, 33, Integer.MAX_VALUE}) {
            is("bring(" + off + ", true)", x.bring(off, true), UNKNOWN);
            is("bring(" + off + ", false)", x.bring(off, false), UNKNOWN);
        }
        for (int k = 0; k < 3; k++) is("proved(" + k + ", 4)", x.proved(k, 4), 0);
        is("bring(1, false)", x.bring(1, false), 0);
        is("bring(1, true)", x.bring(1, true), 0);
        is("bring(1, true)", x.bring(1, true), 1);
        is("proved(0, 4)", x.proved(0, 4), 0);
        is("proved(1, 4)", x.proved(1, 4), 1);
        is("proved(2, 4)", x.proved(2, 4), 0);
        is("bring(1, false)", x.bring(1, false), 1);
        is("bring(1, false)", x.bring(1, false), 0);
    }

    private static void whatIsAskedOfProofs() {
        about("proved: UNKNOWN, OUTSIDE");
        PleaPapers none = new PleaPapers();
        PleaPapers x = new PleaPapers();
        x.proof(1, 11, 1000, 99);
        for (int what = 0; what <= 5; what++) {
            is("proved(0, " + what + "): there is no proof", none.proved(0, what), UNKNOWN);
            for (int off : new int[] {Integer.MIN_VALUE, -1, 1, 2, 16, Integer.MAX_VALUE}) {
                is("proved(" + off + ", " + what + ")", x.proved(off, what), UNKNOWN);
            }
        }
        for (int what : new int[] {Integer.MIN_VALUE, -1, 6, 7, Integer.MAX_VALUE}) {
            is("proved(0, " + what + ")", x.proved(0, what), OUTSIDE);
        }
    }

    private static void forAndAgainst() {
        about("FOR is one of the SIDE that SAID the FACT, AGAINST of the other one; which count for nothing");
        for (int sayer = 0; sayer < 2; sayer++) {
            PleaPapers x = new PleaPapers();
            for (int k = 0; k < 10; k++) x.proof(k % 2, k / 2, 500, 0);
            isBearing(x, sayer, "free", 0, NONE, NONE);
            if (sayer == 1) x.paper(0);
            paper(x, 0, "say 0,1,not 2,3,4;");
            isBearing(x, sayer, "awaiting", 1, 1, 0);
            paper(x, 0, "deny 1,2;doubt 3,4;");
            isBearing(x, sayer, "admitted", 0, NONE, NONE);
            isBearing(x, sayer, "denied", 2, 1, 0);
            isBearing(x, sayer, "doubted", 3, 1, NONE);
            paper(x, 0, "take 1,3;");
            isBearing(x, sayer, "denied, taken back", 1, NONE, NONE);
            isBearing(x, sayer, "doubted, taken back", 3, NONE, NONE);
            isBearing(x, sayer, "doubted still", 4, 1, NONE);
        }
    }

    private static void isBearing(PleaPapers x, int sayer, String how, int f, int ofSayer, int ofOther) {
        is("of the sayer, " + how, x.proved(2 * f + sayer, 5), ofSayer);
        is("of the other one, " + how, x.proved(2 * f + 1 - sayer, 5), ofOther);
    }

    // ---- likely, chance, worth

    private static void likelyOfWhat() {
        about("likely: UNKNOWN, NOT: it is not OPEN");
        PleaPapers none = new PleaPapers();
        for (int f = 0; f < 12; f++) is("likely(" + f + "), free", none.likely(f), NOT);
        PleaPapers x = sample();
        int[] due = {0, 0, 0, NOT, 0, NOT, NOT, NOT, NOT, NOT, NOT, NOT};
        for (int f = 0; f < 12; f++) is("likely(" + f + ")", x.likely(f), due[f]);
        for (int f : NOT_A_FACT) {
            is("likely(" + f + ")", x.likely(f), UNKNOWN);
            is("likely(" + f + ")", none.likely(f), UNKNOWN);
        }
        PleaPapers all = new PleaPapers();
        paper(all, 0, "say " + items(ALL) + ";");
        brought(all, 0, 11, 777);
        is("likely(11)", all.likely(11), 777);
        is("likely(10)", all.likely(10), 0);
    }

    private static void likelyFromNothingToAll() {
        about("LIKELY, of a thousand: no PROOF, odds 0, 1, 999, 1000, both ways, 16 of them");
        PleaPapers none = threeFacts(1, 1, 1);
        is("no proof", none.likely(0), 0);
        none.proof(0, 0, 1000, 0);
        is("one that is not brought", none.likely(0), 0);
        for (int odds : new int[] {0, 1, 500, 999, 1000}) {
            PleaPapers x = threeFacts(1, 1, 1);
            brought(x, 1, 0, odds);
            is("against, odds " + odds, x.likely(0), 0);
            brought(x, 0, 1, odds);
            is("for, odds " + odds, x.likely(1), odds);
            brought(x, 0, 2, 1000);
            brought(x, 1, 2, odds);
            is("for 1000, against odds " + odds, x.likely(2), 1000 - odds);
        }
        PleaPapers sixteen = threeFacts(1, 1, 1);
        int left = 1000;
        for (int k = 0; k < 16; k++) {
            brought(sixteen, 0, 0, 1);
            left = left * 999 / 1000;
            is("of odds 1, " + (k + 1) + " for it", sixteen.likely(0), 1000 - left);
        }
        is("each is cut", left, 984);
        PleaPapers cut = threeFacts(1, 1, 1);
        brought(cut, 0, 0, 999);
        is("one left of a thousand", cut.likely(0), 999);
        brought(cut, 0, 0, 1);
        is("cut to none left", cut.likely(0), 1000);
        brought(cut, 1, 0, 999);
        is("one is likely", cut.likely(0), 1);
        brought(cut, 1, 0, 1);
        is("cut to none", cut.likely(0), 0);
    }

    private static void likelyIsCutInOrder() {
        about("LIKELY: by each PROOF BROUGHT FOR it, in order; then by each AGAINST it");
        // 1000, 900, 810, 697 or 1000, 861, 774, 696
        is("for, in order", likelyBy(0, 100, 0, 100, 0, 139), 1000 - 697);
        is("for, in the other order", likelyBy(0, 139, 0, 100, 0, 100), 1000 - 696);
        // 700, 630, 560 or 700, 622, 559
        is("against, in order", likelyBy(0, 700, 1, 100, 1, 111), 560);
        is("against, in the other order", likelyBy(0, 700, 1, 111, 1, 100), 559);
        is("for it ahead of all against it", likelyBy(1, 500, 0, 500, 0, 600), (1000 - 200) / 2);
    }

    private static int likelyBy(int... sidesAndOdds) {
        PleaPapers x = threeFacts(1, 1, 1);
        for (int i = 0; i < sidesAndOdds.length; i += 2) brought(x, sidesAndOdds[i], 0, sidesAndOdds[i + 1]);
        return x.likely(0);
    }

    private static void chanceOfWhat() {
        about("chance: UNKNOWN");
        is("there is no claim", new PleaPapers().chance(0), UNKNOWN);
        PleaPapers x = sample();
        for (int c : new int[] {Integer.MIN_VALUE, -1, 3, 4, 6, Integer.MAX_VALUE}) {
            is("chance(" + c + ")", x.chance(c), UNKNOWN);
        }
        PleaPapers six = new PleaPapers();
        for (int c = 0; c < 6; c++) claim(six, c % 2 == 0 ? "pay 1 if 0" : "pay 1 if not 0");
        for (int c = 0; c < 6; c++) is("chance(" + c + ")", six.chance(c), c % 2 == 0 ? 0 : 1000000);
        is("chance(6)", six.chance(6), UNKNOWN);
    }

    private static void chanceFromNothingToAMillion() {
        about("CHANCE, of a MILLION: no FACT OPEN, and LIKELY 0, 1, 999, 1000");
        for (int odds : new int[] {0, 1, 999, 1000}) {
            PleaPapers x = new PleaPapers();
            claim(x, "pay 1 if 0");
            claim(x, "pay 1 if not 0");
            is("chance(0), free", x.chance(0), 0);
            is("chance(1), free", x.chance(1), 1000000);
            paper(x, 0, "say 0;");
            brought(x, 0, 0, odds);
            is("chance(0), odds " + odds, x.chance(0), 1000 * odds);
            is("chance(1), odds " + odds, x.chance(1), 1000000 - 1000 * odds);
            x.paper(0);
            is("chance(0), admitted", x.chance(0), 1000000);
            is("chance(1), admitted", x.chance(1), 0);
            PleaPapers y = new PleaPapers();
            claim(y, "pay 1 if 0");
            paper(y, 0, "say not 0;");
            brought(y, 0, 0, odds);
            is("said as 'not' so, odds " + odds, y.chance(0), 1000000 - 1000 * odds);
        }
    }

    private static void chanceIsCutInOrder() {
        about("CHANCE: for each OPEN FACT in order times LIKELY, or 1000 less that, / 1000 (cut)");
        // 1000000, 101000, 10201, 1030, 1020 or 1000000, 991000, 100091, 10109, 1021
        is("in order", chanceBy(101, 101, 101, 991), 1020);
        is("in the other order", chanceBy(991, 101, 101, 101), 1021);
        is("cut to nothing", chanceBy(1, 1, 999), 0);
        is("a last one", chanceBy(1, 1, 1000), 1);
        is("nothing stays nothing", chanceBy(0, 1000, 1000), 0);
        is("all of it", chanceBy(1000, 1000, 1000), 1000000);
        PleaPapers x = new PleaPapers();
        claim(x, "pay 1 if not 0 and not 1 and not 2");
        paper(x, 0, "say 0,1,2;");
        brought(x, 0, 0, 999);
        brought(x, 0, 1, 999);
        is("a last one, not shown", x.chance(0), 1);
        brought(x, 0, 2, 1);
        is("cut to nothing, not shown", x.chance(0), 0);
    }

    private static int chanceBy(int... likely) {
        PleaPapers x = new PleaPapers();
        StringBuilder all = new StringBuilder("pay 1 if 0");
        for (int f = 1; f < likely.length; f++) all.append(" and ").append(f);
        claim(x, all.toString());
        paper(x, 0, "say " + items((1 << likely.length) - 1) + ";");
        for (int f = 0; f < likely.length; f++) brought(x, 0, f, likely[f]);
        return x.chance(0);
    }

    private static void chanceByAllWays() {
        about("CHANCE: the sum over WAYS, of twelve OPEN FACTS");
        PleaPapers x = new PleaPapers();
        claim(x, "pay 1 if 0 or not 0");
        claim(x, "pay 1 if 11");
        claim(x, "pay 1 if 0 and 1 and 2 and 3 and 4 and 5 and 6 and 7 and 8 and 9 and 10 and 11");
        claim(x, "pay 1 if 0 and not 0");
        paper(x, 0, "say " + items(ALL) + ";");
        for (int f = 0; f < 12; f++) brought(x, 0, f, 500);
        // a million halved twelve times, cut each time
        int way = 244;
        is("chance(0): 4096 ways", x.chance(0), 4096 * way);
        is("chance(1): 2048 ways", x.chance(1), 2048 * way);
        is("chance(2): one way", x.chance(2), way);
        is("chance(3): no way", x.chance(3), 0);
        is("worth(0)", x.worth(0), 999 + 499 + 0);
    }

    private static void worthOfWhat() {
        about("worth: UNKNOWN; nothing there yet; the greatest");
        PleaPapers none = new PleaPapers();
        for (int side : NOT_A_SIDE) is("worth(" + side + ")", none.worth(side), UNKNOWN);
        is("worth(0), there is no claim", none.worth(0), 0);
        is("worth(1), there is no claim", none.worth(1), 0);
        PleaPapers three = threeFacts(100, 50, 20);
        for (int k = 0; k < 3; k++) three.proof(0, k, 1000, 99);
        is("worth(0), none is brought", three.worth(0), 0);
        is("chance(0), none is brought", three.chance(0), 0);
        three.bring(2, true);
        is("worth(0), what is brought costs nothing more", three.worth(0), 20000);
        three.bring(2, false);
        is("worth(0), none is brought any more", three.worth(0), 0);
        PleaPapers most = new PleaPapers();
        PleaPapers least = new PleaPapers();
        for (int c = 0; c < 6; c++) {
            claim(most, "pay 999 if not 0");
            claim(least, "owe 999 if not 0");
        }
        is("worth(0)", most.worth(0), 5994000);
        is("worth(1)", most.worth(1), -5994000);
        is("worth(0)", least.worth(0), -5994000);
        is("worth(1)", least.worth(1), 5994000);
    }

    private static void worthIsCutTowardsZero() {
        about("WORTH: S times CHANCE / 1000 (cut each); / cuts towards 0");
        PleaPapers x = new PleaPapers();
        claim(x, "owe 7 if 0 and 1");
        paper(x, 0, "say 0,1;");
        brought(x, 0, 0, 333);
        brought(x, 0, 1, 457);
        is("chance(0)", x.chance(0), 152181);
        // 7 * 152181 / 1000 = 1065.267
        is("worth(0) of an 'owe'", x.worth(0), -1065);
        is("worth(1) of an 'owe'", x.worth(1), 1065);
        claim(x, "owe 7 if 0 and 1");
        is("each is cut for itself", x.worth(0), -2130);
        claim(x, "pay 3 if 0 and 1");
        // 3 * 152181 / 1000 = 456.543
        is("worth(0)", x.worth(0), -2130 + 456);
        is("worth(1)", x.worth(1), 2130 - 456);
        PleaPapers y = new PleaPapers();
        claim(y, "pay 1 if 0 and 1 and 2");
        claim(y, "owe 1 if 0 and 1 and 2");
        paper(y, 0, "say 0,1,2;");
        brought(y, 0, 0, 1);
        brought(y, 0, 1, 999);
        brought(y, 0, 2, 1000);
        is("chance(0)", y.chance(0), 999);
        is("worth(0): each cut to nothing", y.worth(0), 0);
        y.bring(1, false);
        brought(y, 0, 1, 1000);
        claim(y, "pay 1 if 0 and 1 and 2");
        is("chance(0)", y.chance(0), 1000);
        is("worth(0)", y.worth(0), 1);
    }

    // ---- best

    private static void bestOfWhat() {
        about("best: m coins (0 .. 9999), what 0 .. 2; UNKNOWN, OUTSIDE");
        PleaPapers x = threeFacts(100, 50, 20);
        x.proof(0, 0, 500, 0);
        x.proof(0, 1, 500, 1);
        for (int side : NOT_A_SIDE) {
            for (int what = 0; what <= 2; what++) {
                is("best(" + side + ", 0, " + what + ")", x.best(side, 0, what), UNKNOWN);
            }
        }
        for (int m : new int[] {Integer.MIN_VALUE, -9999, -1, 10000, 10001, Integer.MAX_VALUE}) {
            for (int what = 0; what <= 2; what++) is("best(0, " + m + ", " + what + ")", x.best(0, m, what), OUTSIDE);
        }
        for (int what : new int[] {Integer.MIN_VALUE, -1, 3, 4, Integer.MAX_VALUE}) {
            is("best(0, 0, " + what + ")", x.best(0, 0, what), OUTSIDE);
            is("best(1, 9999, " + what + ")", x.best(1, 9999, what), OUTSIDE);
        }
        int[][] due = {{0, 1, 50000, 0}, {1, 3, 74000, 1}, {9998, 3, 74000, 1}, {9999, 3, 74000, 1}};
        for (int[] row : due) {
            for (int what = 0; what <= 2; what++) {
                is("best(0, " + row[0] + ", " + what + ")", x.best(0, row[0], what), row[what + 1]);
            }
        }
    }

    private static void bestOfNone() {
        about("best: nothing there yet");
        for (int side = 0; side < 2; side++) {
            PleaPapers none = new PleaPapers();
            PleaPapers x = sample();
            for (int m : new int[] {0, 9999}) {
                for (int what = 0; what <= 2; what++) {
                    is("no claim, no paper, no proof", none.best(side, m, what), 0);
                    int worth = side == 0 ? -33000 : 33000;
                    is("no proof", x.best(side, m, what), what == 1 ? worth : 0);
                }
            }
            x.proof(1 - side, 0, 1000, 0);
            is("none of this side", x.best(side, 9999, 0), 0);
            x.proof(side, 0, 1000, 0);
            x.bring(1, true);
            is("none that is not brought", x.best(side, 9999, 0), 0);
            is("of no cost", x.best(side, 9999, 2), 0);
            is("worth as it is", x.best(side, 9999, 1), x.worth(side));
        }
        PleaPapers y = new PleaPapers();
        claim(y, "pay 10 if 0");
        y.paper(0);
        paper(y, 0, "say 0;");
        y.proof(1, 0, 500, 0);
        y.proof(0, 7, 500, 0);
        is("not the other side's, whatever it would gain", y.best(0, 9999, 0), 0);
        is("nor in the game", y.game(0, 0), 0);
        is("nor as an answer", y.game(1, 1), 0);
        is("worth as it is", y.best(0, 9999, 1), 0);
    }

    private static void bestCostsJustSoMany() {
        about("best: the SET that costs m or less together");
        PleaPapers x = new PleaPapers();
        for (int c = 0; c < 6; c++) claim(x, "pay 999 if " + c);
        paper(x, 0, "say 0,1,2,3,4,5;");
        for (int k = 0; k < 6; k++) x.proof(0, k, 1000, 99);
        for (int n = 0; n <= 6; n++) {
            int[] due = {(1 << n) - 1, 900000 * n, 99 * n};
            for (int what = 0; what <= 2; what++) {
                is("best(0, " + 99 * n + ", " + what + ")", x.best(0, 99 * n, what), due[what]);
                if (n < 6) is("best(0, " + (99 * n + 98) + ", " + what + ")", x.best(0, 99 * n + 98, what), due[what]);
            }
        }
        is("best(0, 593, 0)", x.best(0, 593, 0), 31);
        PleaPapers y = threeFacts(100, 90, 20);
        y.proof(0, 0, 1000, 11);
        y.proof(0, 1, 1000, 5);
        y.proof(0, 2, 1000, 5);
        is("two in place of one that is worth more", y.best(0, 10, 0), 6);
        is("one less", y.best(0, 9, 0), 2);
        is("one more", y.best(0, 11, 0), 6);
        is("the greatest ahead of the cheapest", y.best(0, 16, 0), 3);
        is("one less", y.best(0, 15, 0), 6);
    }

    private static void bestOfTheFirstEight() {
        about("best: of its PROOFS that are not BROUGHT (the first 8 of them)");
        PleaPapers x = threeFacts(100, 50, 20);
        x.proof(1, 0, 500, 0);
        for (int k = 1; k < 8; k++) x.proof(0, 7, 500, 0);
        is("an eighth of this side", x.proof(0, 0, 500, 0), 8);
        is("a ninth", x.proof(0, 1, 500, 0), 9);
        is("the eighth, not the ninth", x.best(0, 9999, 0), 1 << 8);
        is("its worth", x.best(0, 9999, 1), 50000);
        x.bring(8, true);
        is("the ninth is an eighth then", x.best(0, 9999, 0), 1 << 9);
        x.bring(0, true);
        is("the other side's does not count", x.best(0, 9999, 0), 1 << 9);
        PleaPapers y = threeFacts(100, 50, 20);
        for (int k = 0; k < 13; k++) y.proof(1, 0, 0, 0);
        for (int f = 0; f < 3; f++) y.proof(0, f, 500, 0);
        is("the last three of sixteen", y.best(0, 0, 0), 1 << 13 | 1 << 14 | 1 << 15);
        is("the first eight of thirteen", y.best(1, 9999, 0), 0);
    }

    private static void bestOfLikeOnes() {
        about("best: of like ones the cheapest, then the least SET");
        PleaPapers x = threeFacts(20, 15, 10);
        x.proof(0, 0, 500, 7);
        x.proof(0, 1, 600, 6);
        x.proof(0, 2, 800, 5);
        is("3000 each: the cheapest", x.best(0, 7, 0), 4);
        PleaPapers y = threeFacts(10, 10, 10);
        for (int f = 0; f < 3; f++) y.proof(0, 2 - f, 500, 5);
        is("all of no gain: the empty set is the cheapest", y.best(0, 9999, 0), 0);
        is("best(0, 9999, 2)", y.best(0, 9999, 2), 0);
        PleaPapers z = threeFacts(10, 10, 10);
        for (int f = 0; f < 3; f++) z.proof(0, 2 - f, 500, 4);
        is("one of three like ones", z.best(0, 4, 0), 1);
        is("two of three like ones", z.best(0, 8, 0), 3);
        PleaPapers w = threeFacts(10, 10, 10);
        w.proof(0, 7, 500, 0);
        w.proof(0, 0, 500, 0);
        w.proof(0, 0, 0, 0);
        is("none of those that change nothing", w.best(0, 9999, 0), 2);
        PleaPapers v = threeFacts(10, 10, 4);
        v.proof(0, 2, 1000, 4);
        v.proof(0, 0, 500, 5);
        v.proof(0, 1, 300, 1);
        // the first two gain nothing
        is("of like ones the cheapest, not the least", v.best(0, 9999, 0), 4);
    }

    // ---- game

    private static void gameOfWhat() {
        about("game: UNKNOWN, OUTSIDE; nothing there yet");
        PleaPapers none = new PleaPapers();
        PleaPapers x = sample();
        for (int what = 0; what <= 2; what++) {
            for (int side : NOT_A_SIDE) is("game(" + side + ", " + what + ")", x.game(side, what), UNKNOWN);
            is("game(0, " + what + "), nothing there", none.game(0, what), 0);
            is("game(1, " + what + "), nothing there", none.game(1, what), 0);
            is("game(0, " + what + "), no proof", x.game(0, what), what == 2 ? -33000 : 0);
            is("game(1, " + what + "), no proof", x.game(1, what), what == 2 ? 33000 : 0);
        }
        for (int what : new int[] {Integer.MIN_VALUE, -1, 3, 4, Integer.MAX_VALUE}) {
            is("game(0, " + what + ")", x.game(0, what), OUTSIDE);
            is("game(1, " + what + ")", x.game(1, what), OUTSIDE);
        }
    }

    private static void gameOfTheFirstFour() {
        about("game: its PROOFS that are not BROUGHT (the first 4), then the other SIDE of its own (the first 4)");
        PleaPapers x = threeFacts(100, 50, 20);
        for (int k = 0; k < 6; k++) x.proof(k % 2, 7, 500, 0);
        is("a fourth of side 0", x.proof(0, 0, 500, 0), 6);
        is("a fourth of side 1", x.proof(1, 0, 500, 0), 7);
        is("a fifth of side 0", x.proof(0, 1, 500, 0), 8);
        is("a fifth of side 1", x.proof(1, 0, 900, 0), 9);
        int[][] due = {{1 << 6, 1 << 7, 25000}, {1 << 7, 1 << 6, -25000}};
        for (int side = 0; side < 2; side++) {
            for (int what = 0; what <= 2; what++) {
                is("game(" + side + ", " + what + ")", x.game(side, what), due[side][what]);
            }
        }
        x.bring(0, true);
        is("the fifth is a fourth then", x.game(0, 0), 1 << 6 | 1 << 8);
        is("of the other one it is not", x.game(0, 1), 1 << 7);
        x.bring(1, true);
        is("the other one's fifth is a fourth then", x.game(0, 1), 1 << 7 | 1 << 9);
        is("game(0, 2)", x.game(0, 2), 2500 + 25000);
        PleaPapers y = threeFacts(100, 50, 20);
        for (int k = 0; k < 12; k++) y.proof(1, 0, 0, 0);
        for (int f = 0; f < 3; f++) y.proof(0, f, 1000, 99);
        y.proof(0, 1, 1000, 1);
        is("the last four of sixteen", y.game(0, 0), 1 << 12 | 1 << 15);
        is("the answer to the last four", y.game(1, 1), 1 << 12 | 1 << 15);
        is("the first four of twelve", y.game(1, 0), 0);
    }

    private static void gameWhateverItCosts() {
        about("game: each for the greatest WORTH to itself less 1000 times its cost, whatever it costs");
        PleaPapers x = new PleaPapers();
        for (int c = 0; c < 4; c++) claim(x, "pay 100 if " + c);
        paper(x, 0, "say 0,1,2,3;");
        for (int f = 0; f < 4; f++) x.proof(0, f, 1000, 99);
        for (int f = 0; f < 4; f++) x.proof(1, f, 1000, 99);
        // each of side 0's proofs gains 1000, but the other one's answer takes it for 1000 more
        is("knowing what the other one will do", x.game(0, 0), 0);
        is("game(0, 1)", x.game(0, 1), 0);
        is("best(0, 9999, 0), without an answer", x.best(0, 9999, 0), 15);
        // ahead of them it costs 99000 a proof to keep side 0 from gaining 100000
        is("whatever it costs", x.game(1, 0), 15 << 4);
        is("knowing what the other one has done", x.game(1, 1), 0);
        is("game(1, 2)", x.game(1, 2), -4 * 99000);
        for (int k = 0; k < 4; k++) x.bring(k, true);
        is("whatever it costs", x.game(1, 0), 15 << 4);
        is("game(1, 1)", x.game(1, 1), 0);
        is("game(1, 2)", x.game(1, 2), -4 * 99000);
        is("game(0, 1)", x.game(0, 1), 15 << 4);
        is("game(0, 2)", x.game(0, 2), 0);
    }

    private static void gameOfLikeOnes() {
        about("game: of like ones the least SET");
        PleaPapers x = threeFacts(10, 10, 10);
        for (int f = 0; f < 3; f++) x.proof(0, f, 1000, 10);
        is("all of no gain", x.game(0, 0), 0);
        is("all of no gain, as an answer", x.game(1, 1), 0);
        PleaPapers y = threeFacts(10, 10, 10);
        y.proof(0, 0, 500, 4);
        y.proof(0, 0, 500, 4);
        y.proof(0, 7, 0, 0);
        is("either of two, not both", y.game(0, 0), 1);
        is("either of two, as an answer", y.game(1, 1), 1);
        PleaPapers z = threeFacts(20, 15, 10);
        z.proof(0, 0, 500, 7);
        z.proof(0, 0, 1000, 17);
        z.proof(0, 0, 400, 5);
        // 3000 each, and none with another one more
        is("the least, not the cheapest", z.game(0, 0), 1);
        is("the least, not the cheapest, as an answer", z.game(1, 1), 1);
    }

    // ---- without

    private static void withoutWhat() {
        about("without: UNKNOWN");
        PleaPapers none = new PleaPapers();
        for (int p : new int[] {Integer.MIN_VALUE, -1, 0, 1, 9, 10, Integer.MAX_VALUE}) {
            is("without(" + p + "): there is no paper", none.without(p), UNKNOWN);
        }
        PleaPapers x = sample();
        for (int p : new int[] {Integer.MIN_VALUE, -1, 3, 4, 10, Integer.MAX_VALUE}) {
            is("without(" + p + ")", x.without(p), UNKNOWN);
        }
        for (int p = 3; p < 10; p++) x.paper(25);
        is("without(9)", x.without(9), x.worth(0));
        is("without(10)", x.without(10), UNKNOWN);
        x.strike();
        is("without(9), taken away", x.without(9), UNKNOWN);
        PleaPapers noClaim = new PleaPapers();
        paper(noClaim, 0, "say 0;");
        is("there is no claim", noClaim.without(0), 0);
    }

    private static void withoutTheFirstAndTheLast() {
        about("WITHOUT a PAPER: all PAPERS anew, that one LATE");
        PleaPapers x = new PleaPapers();
        claim(x, "pay 10 if 0");
        claim(x, "owe 3 if 1");
        paper(x, 5, "say 0;");
        is("the only one", x.without(0), 0);
        paper(x, 5, "deny 0;say 1;");
        is("worth(0)", x.worth(0), 0);
        is("the last one: its silence counts", x.without(1), 10000);
        is("the first one: what is denied then is passed over", x.without(0), 0);
        x.paper(5);
        is("worth(0)", x.worth(0), -3000);
        is("without(0)", x.without(0), -3000);
        is("without(1)", x.without(1), 10000);
        is("one without clauses", x.without(2), -3000);
        is("nothing is changed by asking", x.worth(0), -3000);
        is("heard(1, 1)", x.heard(1, 1), 0);
        is("fact(0, 0)", x.fact(0, 0), 3);
    }

    private static void passedOverItemByItem() {
        about("WITHOUT: what of later ones has a FAULT 5 then is passed over, item by item");
        PleaPapers x = new PleaPapers();
        for (int c = 0; c < 6; c++) claim(x, "pay " + (1 << c) + " if " + c);
        paper(x, 0, "say 0,1,2;");
        paper(x, 0, "deny 0,1,2;");
        paper(x, 0, "take 0,1,2;say 3;");
        paper(x, 0, "say 0,4;admit 3;");
        paper(x, 0, "admit 0,4;say 5,1;");
        paper(x, 0, "admit 5,1;");
        is("worth(0)", x.worth(0), 63000 - 4000);
        is("the others of a paper are heard", x.without(1), 63000);
        is("answers to what was not said are passed over, sayings are not", x.without(3), 63000 - 4000 - 16000 - 1000);
        is("what was not taken back can't be said", x.without(2), (2 + 16 + 32) * 1000 - 2000);
        is("nothing was said", x.without(0), 59000);
        is("the last", x.without(5), 59000);
        is("no answer, but silence", x.without(4), (1 + 8 + 16) * 1000);
        PleaPapers y = new PleaPapers();
        claim(y, "pay 1 if 0");
        paper(y, 0, "say 0;");
        paper(y, 0, "say 1;");
        paper(y, 0, "deny 1;");
        paper(y, 0, "take 1;");
        is("of an earlier one nothing is passed over", y.without(3), 1000);
    }

    private static void lateStillSo() {
        about("WITHOUT: those that were LATE still so");
        PleaPapers x = new PleaPapers();
        claim(x, "pay 1 if 0");
        claim(x, "pay 2 if 1");
        paper(x, 0, "say 0;");
        paper(x, 21, "deny 0;say 1;");
        paper(x, 22, "say 2;");
        is("a late one", x.without(1), 1000);
        is("another one", x.without(2), 1000);
        is("the first", x.without(0), 0);
        x.due(99);
        is("whatever is due now", x.without(2), 1000);
        PleaPapers y = new PleaPapers();
        claim(y, "pay 1 if 0");
        y.due(1);
        paper(y, 0, "say 0;");
        paper(y, 1, "deny 0;");
        paper(y, 2, "say 3;");
        is("behind one that is late as told the next one is not", y.without(1), 1000);
        is("heard(2, 1)", y.heard(2, 1), 0);
    }

    // ---- seed, trial

    private static void boundsOfSeed() {
        about("seed: v (0 .. 2147483647), what it was, 0 at first; OUTSIDE");
        PleaPapers x = new PleaPapers();
        for (int v : new int[] {Integer.MIN_VALUE, Integer.MIN_VALUE + 1, -2, -1}) {
            is("seed(" + v + ")", x.seed(v), OUTSIDE);
        }
        is("seed(0): 0 at first", x.seed(0), 0);
        is("seed(1)", x.seed(1), 0);
        is("seed(-1)", x.seed(-1), OUTSIDE);
        is("seed(2147483646)", x.seed(2147483646), 1);
        is("seed(2147483647)", x.seed(2147483647), 2147483646);
        is("seed(least)", x.seed(Integer.MIN_VALUE), OUTSIDE);
        is("seed(0)", x.seed(0), 2147483647);
    }

    private static void drawsWrapAround() {
        about("each DRAW THE SEED becomes it times 1103515245 and 12345, left over by 2 to the 31");
        long[] seeds = {0, 1, 2, 65535, 65536, 1073741823, 1073741824, 2147483646, 2147483647};
        for (long seed : seeds) {
            PleaPapers x = new PleaPapers();
            paper(x, 0, "say 0;");
            x.seed((int) seed);
            for (int n = 0; n < 10; n++) {
                x.trial();
                seed = Math.floorMod(seed * 1103515245L + 12345L, 2147483648L);
                is("the seed behind draw " + n, x.seed((int) seed), (int) seed);
            }
        }
        PleaPapers x = new PleaPapers();
        paper(x, 0, "say 0;");
        x.trial();
        is("behind 0", x.seed(2147483647), 12345);
        x.trial();
        is("behind the greatest", x.seed(0), 1043980748);
    }

    private static void shownIfBelowLikely() {
        about("a DRAW of 1000: SHOWN, if it is below LIKELY");
        // seed, and the draw of 1000 behind it
        int[][] draws = {{0, 0}, {373, 0}, {1695, 1}, {917, 999}, {2147483647, 929}};
        for (int[] row : draws) {
            for (int likely : new int[] {0, 1, 2, 928, 929, 930, 998, 999, 1000}) {
                PleaPapers x = new PleaPapers();
                claim(x, "pay 5 if 0");
                claim(x, "owe 3 if not 0");
                paper(x, 0, "say 0;");
                brought(x, 0, 0, likely);
                x.seed(row[0]);
                is("draw " + row[1] + ", likely " + likely, x.trial(), row[1] < likely ? 5 : -3);
            }
        }
        about("the DRAW of n is THE SEED / 65536, left over by n");
        for (int seed = 1; seed < 2000000000; seed += 19999999) {
            int draw = (int) (Math.floorMod(seed * 1103515245L + 12345L, 2147483648L) / 65536 % 1000);
            for (int more = 0; more < 2; more++) {
                PleaPapers x = new PleaPapers();
                claim(x, "pay 5 if 0");
                paper(x, 0, "say 0;");
                brought(x, 0, 0, draw + more);
                x.seed(seed);
                is("draw " + draw + " from " + seed + ", likely " + (draw + more), x.trial(), 5 * more);
            }
        }
    }

    private static void drawsInOrder() {
        about("for each OPEN FACT in order a DRAW: what SIDE 1 pays then, all together");
        PleaPapers x = new PleaPapers();
        int[] coins = {999, 100, 10, 1, 500, 50};
        int[] facts = {0, 1, 3, 5, 9, 11};
        for (int c = 0; c < 6; c++) claim(x, (c < 4 ? "pay " : "owe ") + coins[c] + " if " + facts[c]);
        paper(x, 0, "say 11,0,5,3,4;");
        paper(x, 0, "deny 11,3;doubt 0;say 9;admit 4;");
        is("open()", x.open(), 1 | 8 | 512 | 2048);
        int[] open = {0, 3, 9, 11};
        int[] likely = {300, 500, 700, 900};
        for (int i = 0; i < 4; i++) brought(x, open[i] == 9 ? 1 : 0, open[i], likely[i]);
        long seed = 987654321;
        x.seed((int) seed);
        for (int n = 0; n < 50; n++) {
            // fact 5 is admitted by silence
            int sum = 1;
            for (int i = 0; i < 4; i++) {
                seed = Math.floorMod(seed * 1103515245L + 12345L, 2147483648L);
                if (seed / 65536 % 1000 < likely[i]) sum += new int[] {999, 10, -500, -50}[i];
            }
            is("trial " + n, x.trial(), sum);
        }
        is("seed(0)", x.seed(0), (int) seed);
    }

    private static void trialOfNothing() {
        about("trial: nothing there yet, no FACT OPEN, the greatest");
        PleaPapers none = new PleaPapers();
        is("nothing there", none.trial(), 0);
        is("no draw", none.seed(9), 0);
        claim(none, "pay 999 if not 3");
        claim(none, "owe 1 if 3");
        is("no paper", none.trial(), 999);
        is("no draw", none.seed(9), 9);
        PleaPapers most = new PleaPapers();
        for (int c = 0; c < 6; c++) claim(most, "owe 999 if " + c);
        is("none is so", most.trial(), 0);
        paper(most, 0, "say 0,1,2,3,4,5;");
        most.paper(0);
        is("all are so", most.trial(), -5994);
        is("no draw", most.seed(9), 0);
    }

    // ---- images

    private static void imagesThereAre() {
        about("IMAGES 0, 1: keep UNKNOWN; goBack UNKNOWN, NOT: it was not kept");
        PleaPapers x = new PleaPapers();
        for (int i : new int[] {Integer.MIN_VALUE, -2, -1, 2, 3, Integer.MAX_VALUE}) {
            is("keep(" + i + ")", x.keep(i), UNKNOWN);
            is("goBack(" + i + ")", x.goBack(i), UNKNOWN);
        }
        is("goBack(0)", x.goBack(0), NOT);
        is("goBack(1)", x.goBack(1), NOT);
        is("keep(1)", x.keep(1), 1);
        is("goBack(0): the other one is not kept", x.goBack(0), NOT);
        is("goBack(1)", x.goBack(1), 1);
        is("goBack(1) once more", x.goBack(1), 1);
        is("keep(0)", x.keep(0), 1);
        is("goBack(0)", x.goBack(0), 1);
        is("keep(0) once more", x.keep(0), 1);
        PleaPapers y = new PleaPapers();
        is("keep(0)", y.keep(0), 1);
        is("goBack(1): the other one is not kept", y.goBack(1), NOT);
        is("goBack(0)", y.goBack(0), 1);
        is("another object's images are its own", new PleaPapers().goBack(0), NOT);
    }

    private static void imagesKept() {
        about("keep: IMAGE i becomes what is so; goBack: what is so becomes IMAGE i");
        PleaPapers x = new PleaPapers();
        x.keep(0);
        claim(x, "pay 4 if 0");
        paper(x, 3, "say 0;");
        brought(x, 0, 0, 250);
        x.due(7);
        x.seed(70);
        x.keep(1);
        claim(x, "pay 5 if 1");
        paper(x, 4, "deny 0;");
        brought(x, 1, 0, 500);
        x.bring(0, false);
        x.due(8);
        x.seed(80);
        x.goBack(1);
        isOne(x);
        x.goBack(0);
        isCounted(x, 0, 0, 0);
        is("due(9)", x.due(9), 20);
        is("seed(90)", x.seed(90), 0);
        is("a paper of any day", x.paper(0), 0);
        x.goBack(1);
        isOne(x);
        x.strike();
        x.bring(0, false);
        claim(x, "pay 6 if 1");
        x.goBack(1);
        isOne(x);
        x.keep(0);
        x.strike();
        x.goBack(0);
        isOne(x);
        x.strike();
        x.keep(1);
        x.goBack(1);
        isCounted(x, 1, 0, 1);
        x.goBack(0);
        isOne(x);
    }

    private static void isOne(PleaPapers x) {
        isCounted(x, 1, 1, 1);
        is("told(0, 0)", x.told(0, 0), 4);
        is("heard(0, 0)", x.heard(0, 0), 3);
        is("fact(0, 0)", x.fact(0, 0), 1);
        is("proved(0, 4)", x.proved(0, 4), 1);
        is("likely(0)", x.likely(0), 250);
        is("due(7)", x.due(7), 7);
        is("seed(70)", x.seed(70), 70);
        is("paper(2)", x.paper(2), NOT);
    }

    private static void isCounted(PleaPapers x, int claims, int papers, int proofs) {
        is("count(0)", x.count(0), claims);
        is("count(1)", x.count(1), papers);
        is("count(2)", x.count(2), proofs);
    }

    /** What is so differs from the image in each number that is kept. */
    private static void imagesNumberByNumber() {
        about("goBack: each number of CLAIMS, PAPERS, PROOFS is the IMAGE's");
        PleaPapers x = new PleaPapers();
        x.keep(1);
        claim(x, "pay 4 if 0 or 1");
        paper(x, 3, "say 0;");
        paper(x, 24, "deny 0;say 1;");
        paper(x, 25, "say 2;");
        x.bring(x.proof(0, 0, 250, 11), true);
        x.proof(1, 2, 350, 12);
        x.keep(0);
        x.goBack(1);
        claim(x, "owe 9 if 5");
        paper(x, 100, "say not 5;");
        paper(x, 120, "doubt 5;say 6;");
        paper(x, 141, "admit 6;");
        x.proof(1, 5, 450, 13);
        x.bring(x.proof(0, 6, 550, 14), true);
        is("heard(2, 1)", x.heard(2, 1), 1);
        is("goBack(0)", x.goBack(0), 1);
        isCounted(x, 1, 3, 2);
        int[] told = {4, 3, 1};
        int[][] heard = {{3, 0, 1, 0}, {24, 1, 3, 1}, {25, 0, 4, 0}};
        int[][] proved = {{0, 0, 250, 11, 1, NONE}, {1, 2, 350, 12, 0, 0}};
        for (int what = 0; what < 3; what++) is("told(0, " + what + ")", x.told(0, what), told[what]);
        for (int p = 0; p < 3; p++) {
            for (int what = 0; what < 4; what++) is("heard(" + p + ", " + what + ")", x.heard(p, what), heard[p][what]);
        }
        for (int k = 0; k < 2; k++) {
            for (int what = 0; what < 6; what++) {
                is("proved(" + k + ", " + what + ")", x.proved(k, what), proved[k][what]);
            }
        }
        is("fact(5, 0)", x.fact(5, 0), 0);
        is("without(2)", x.without(2), 4000);
        is("goBack(1)", x.goBack(1), 1);
        isCounted(x, 0, 0, 0);
        is("a proof is not brought at first", x.proved(x.proof(0, 0, 0, 0), 4), 0);
        is("a paper of any day", x.paper(0), 0);
    }

    private static void imagesOfFullSuits() {
        about("IMAGES keep six CLAIMS, ten PAPERS, sixteen PROOFS");
        PleaPapers x = new PleaPapers();
        x.keep(1);
        for (int c = 0; c < 6; c++) claim(x, "pay " + (c + 1) + " if " + c);
        for (int p = 0; p < 10; p++) paper(x, 50 * p, "say " + p + ";");
        for (int k = 0; k < 16; k++) brought(x, k % 2, k % 12, 10 * k);
        x.keep(0);
        x.goBack(1);
        isCounted(x, 0, 0, 0);
        is("count(4)", x.count(4), 12);
        is("bring(0, false)", x.bring(0, false), UNKNOWN);
        claim(x, "owe 9 if 9");
        paper(x, 0, "say 9;");
        x.proof(1, 9, 9, 9);
        x.goBack(0);
        isCounted(x, 6, 10, 16);
        is("a seventh claim", claim(x, ""), FULL);
        is("an eleventh paper", x.paper(999), FULL);
        is("a seventeenth proof", x.proof(0, 0, 0, 0), FULL);
        for (int c = 0; c < 6; c++) {
            is("told(" + c + ", 0)", x.told(c, 0), c + 1);
            is("told(" + c + ", 1)", x.told(c, 1), 1 << c);
        }
        for (int p = 0; p < 10; p++) {
            is("heard(" + p + ", 0)", x.heard(p, 0), 50 * p);
            is("heard(" + p + ", 1)", x.heard(p, 1), p > 0 ? 1 : 0);
            is("heard(" + p + ", 2)", x.heard(p, 2), 1 << p);
        }
        for (int k = 0; k < 16; k++) {
            is("proved(" + k + ", 0)", x.proved(k, 0), k % 2);
            is("proved(" + k + ", 1)", x.proved(k, 1), k % 12);
            is("proved(" + k + ", 2)", x.proved(k, 2), 10 * k);
            is("proved(" + k + ", 4)", x.proved(k, 4), 1);
        }
        for (int left = 9; left >= 0; left--) is("strike()", x.strike(), left);
        x.goBack(0);
        is("fact(0, 0)", x.fact(0, 0), 2);
        is("told(0, 2)", x.told(0, 2), 1);
    }

    private static void whatImagesDoNotKeep() {
        about("IMAGES keep CLAIMS, PAPERS, PROOFS, DUE, THE SEED: not THE TEXT nor the place of the FAULT");
        PleaPapers x = new PleaPapers();
        tell(x, "say 7;");
        x.keep(0);
        is("the text stays", x.count(3), 6);
        is("paper(0)", x.paper(0), 0);
        claim(x, "pay 5 if 12");
        tell(x, "pay 5 if 1");
        x.goBack(0);
        is("count(1)", x.count(1), 0);
        is("the text stays", x.count(3), 10);
        is("fault()", x.fault(), 9);
        is("claim()", x.claim(), 0);
    }

    // ---- how long

    private static void fiveHundredAndTwelveCalls() {
        about("an object is used for at most 512 calls");
        PleaPapers x = new PleaPapers();
        long seed = 0;
        x.feed(8, bytes("say 0,11"));
        x.feed(1, bytes(";"));
        x.paper(0);
        for (int n = 3; n < 511; n++) {
            x.trial();
            seed = Math.floorMod(seed * 1103515245L + 12345L, 2147483648L);
            seed = Math.floorMod(seed * 1103515245L + 12345L, 2147483648L);
        }
        is("the 512th call", x.seed(0), (int) seed);
        PleaPapers y = new PleaPapers();
        for (int n = 0; n < 20; n++) y.feed(8, 0);
        for (int n = 20; n < 510; n++) y.feed(8, 0);
        is("the 511th call", y.feed(1, 0), FULL);
        is("the 512th call", y.paper(0), -11);
    }
}
