import java.util.ArrayList;
import java.util.List;

/**
 * Refusals: of several the first in the document's order, and that what is refused changes nothing. Each call is tried
 * on one of two like suits; behind it both must still answer alike to all that can be asked.
 */
public final class RefusalsTest extends Checks {
    private static final int LEAST = Integer.MIN_VALUE, GREATEST = Integer.MAX_VALUE;

    private interface Call {
        int of(PleaPapers x);
    }

    private interface Maker {
        PleaPapers make();
    }

    private record Refused(String name, int due, Call call) { }

    public static void main(String[] args) {
        refusalsByNumber();
        suitsAreAsTold();
        hold("a new suit", PleaPapers::new, ofAll(), ofNothing());
        hold("a suit with something", RefusalsTest::some, ofAll(), ofSome());
        hold("a suit with a long text", RefusalsTest::someWithALongText, List.of(), ofALongText());
        hold("a full suit", RefusalsTest::full, ofAll(), ofFull());
        hold("a full suit with a short text", RefusalsTest::fullWithAShortText, List.of(), ofAShortText());
        end();
    }

    private static void refusalsByNumber() {
        about("REFUSALS are far below all that is counted: -100000001 and on; NONE is -1");
        is("NONE", PleaPapers.NONE, -1);
        is("UNKNOWN", PleaPapers.UNKNOWN, -100000001);
        is("OUTSIDE", PleaPapers.OUTSIDE, -100000002);
        is("NOT", PleaPapers.NOT, -100000003);
        is("FULL", PleaPapers.FULL, -100000004);
    }

    // ---- suits

    private static PleaPapers some() {
        PleaPapers x = new PleaPapers();
        claim(x, "pay 100 if 0 and not 1");
        claim(x, "owe 40 if 5 or 2");
        paper(x, 5, "say 0,not 1,2,5;");
        x.proof(0, 0, 300, 4);
        x.bring(0, true);
        x.due(30);
        x.seed(7);
        x.keep(1);
        paper(x, 15, "deny 0;doubt 1;say 3;");
        paper(x, 17, "say 6;");
        x.proof(1, 0, 200, 3);
        x.proof(0, 1, 700, 2);
        x.bring(2, true);
        claim(x, "pay 5 if 5 or or");
        x.seed(8);
        tell(x, "deny 6;say 7;");
        return x;
    }

    private static PleaPapers someWithALongText() {
        PleaPapers x = some();
        tell(x, times(" ", 121 - x.count(3)));
        return x;
    }

    private static PleaPapers full() {
        PleaPapers x = fullWithAShortText();
        tell(x, times(" ", 159 - x.count(3)) + "x");
        return x;
    }

    private static PleaPapers fullWithAShortText() {
        PleaPapers x = some();
        x.feed(1, ' ');
        x.paper(17);
        for (int c = 2; c < 6; c++) claim(x, "pay " + c + " if " + c + " or 0");
        for (int p = 4; p < 10; p++) paper(x, 100 * p, p == 9 ? "say 11;" : "");
        for (int k = 3; k < 16; k++) x.proof(k % 2, k % 12, 50 * k, k);
        x.keep(0);
        x.bring(15, true);
        x.strike();
        x.seed(9);
        paper(x, 950, "say 10;");
        tell(x, "say 9;");
        return x;
    }

    private static void suitsAreAsTold() {
        about("the suits on which refusals are tried");
        PleaPapers[] suits = {some(), someWithALongText(), full(), fullWithAShortText()};
        int[][] due = {{2, 3, 3, 13}, {2, 3, 3, 121}, {6, 10, 16, 160}, {6, 10, 16, 6}};
        for (int i = 0; i < suits.length; i++) {
            for (int what = 0; what < 4; what++) {
                is("suit " + i + ", count(" + what + ")", suits[i].count(what), due[i][what]);
            }
        }
    }

    // ---- all that can be asked

    /** What a suit answers to all that can be asked without changing it, then to what changes it. */
    private static String look(PleaPapers x) {
        StringBuilder s = new StringBuilder();
        s.append(x.fault()).append(' ').append(x.open());
        for (int what = 0; what < 9; what++) s.append(' ').append(x.count(what));
        for (int f = 0; f < 12; f++) {
            for (int what = 0; what < 5; what++) s.append(' ').append(x.fact(f, what));
            s.append(' ').append(x.likely(f));
        }
        for (int c = 0; c < x.count(0); c++) {
            for (int what = 0; what < 3; what++) s.append(' ').append(x.told(c, what));
            s.append(' ').append(x.chance(c));
        }
        for (int p = 0; p < x.count(1); p++) {
            for (int what = 0; what < 4; what++) s.append(' ').append(x.heard(p, what));
        }
        for (int k = 0; k < x.count(2); k++) {
            for (int what = 0; what < 5; what++) s.append(' ').append(x.proved(k, what));
        }
        s.append(' ').append(x.worth(0)).append(' ').append(x.due(50)).append(' ').append(x.seed(50));
        return s.toString();
    }

    /** What is so; the bytes of the text; what each image keeps. */
    private static String lookFrom(int from, PleaPapers x) {
        switch (from) {
            case 0:
                return look(x);
            case 1:
                while (x.count(1) > 9) x.strike();
                return x.paper(999) + " " + look(x);
            default:
                return x.goBack(from - 2) + " " + look(x);
        }
    }

    private static void hold(String suit, Maker maker, List<Refused> all, List<Refused> more) {
        String[] due = new String[4];
        for (int from = 0; from < due.length; from++) due[from] = lookFrom(from, maker.make());
        List<Refused> calls = new ArrayList<>(all);
        calls.addAll(more);
        for (Refused refused : calls) {
            about("refusals, " + suit);
            is(refused.name, refused.call.of(maker.make()), refused.due);
            about("what is refused changes nothing, " + suit);
            for (int from = 0; from < due.length; from++) {
                PleaPapers x = maker.make();
                refused.call.of(x);
                is("look " + from + " behind " + refused.name, lookFrom(from, x), due[from]);
            }
        }
    }

    // ---- refusals of any suit

    private static void add(List<Refused> calls, int due, String name, Call call) {
        calls.add(new Refused(name, due, call));
    }

    private static List<Refused> ofAll() {
        List<Refused> calls = new ArrayList<>();
        addTexts(calls);
        addWhatHolds(calls);
        addProofs(calls);
        addOtherwise(calls);
        return calls;
    }

    private static void addTexts(List<Refused> calls) {
        for (int n : new int[] {LEAST, -1, 0, 9, GREATEST}) {
            for (long bytes : new long[] {Long.MIN_VALUE, -1, 0, Long.MAX_VALUE}) {
                add(calls, OUTSIDE, "feed(" + n + ", " + bytes + ")", x -> x.feed(n, bytes));
            }
        }
        for (int v : new int[] {LEAST, -1, 1000, GREATEST}) add(calls, OUTSIDE, "paper(" + v + ")", x -> x.paper(v));
        for (int v : new int[] {LEAST, -1, 0, 100, GREATEST}) add(calls, OUTSIDE, "due(" + v + ")", x -> x.due(v));
        for (int v : new int[] {LEAST, -1, 9, GREATEST}) add(calls, OUTSIDE, "count(" + v + ")", x -> x.count(v));
        for (int what : new int[] {LEAST, -1, 0, 4, 5, GREATEST}) {
            for (int off : new int[] {LEAST, -1, 12, GREATEST}) {
                add(calls, UNKNOWN, "fact(" + off + ", " + what + ")", x -> x.fact(off, what));
            }
            if (what == 0 || what == 4) continue;
            for (int f : new int[] {0, 11}) add(calls, OUTSIDE, "fact(" + f + ", " + what + ")", x -> x.fact(f, what));
        }
        for (int what : new int[] {LEAST, -1, 0, 2, 3, 4, GREATEST}) {
            for (int off : new int[] {LEAST, -1, 6, 10, GREATEST}) {
                add(calls, UNKNOWN, "told(" + off + ", " + what + ")", x -> x.told(off, what));
            }
            for (int off : new int[] {LEAST, -1, 10, GREATEST}) {
                add(calls, UNKNOWN, "heard(" + off + ", " + what + ")", x -> x.heard(off, what));
            }
        }
    }

    private static void addWhatHolds(List<Refused> calls) {
        for (int off : new int[] {LEAST, -1, 6, GREATEST}) {
            for (int set : new int[] {LEAST, -1, 0, 1, 4096, GREATEST}) {
                add(calls, UNKNOWN, "holds(" + off + ", " + set + ")", x -> x.holds(off, set));
            }
            for (int side : new int[] {LEAST, -1, 0, 1, 2, GREATEST}) {
                add(calls, UNKNOWN, "silence(" + off + ", " + side + ")", x -> x.silence(off, side));
            }
            add(calls, UNKNOWN, "turns(" + off + ")", x -> x.turns(off));
            add(calls, UNKNOWN, "enough(" + off + ")", x -> x.enough(off));
            add(calls, UNKNOWN, "chance(" + off + ")", x -> x.chance(off));
        }
        for (int side : new int[] {LEAST, -1, 2, GREATEST}) {
            add(calls, UNKNOWN, "silence(0, " + side + ")", x -> x.silence(0, side));
        }
    }

    private static void addProofs(List<Refused> calls) {
        for (int odds : new int[] {LEAST, -1, 0, 1000, 1001, GREATEST}) {
            for (int cost : new int[] {LEAST, -1, 0, 99, 100, GREATEST}) {
                String of = odds + ", " + cost + ")";
                add(calls, UNKNOWN, "proof(-1, 0, " + of, x -> x.proof(-1, 0, odds, cost));
                add(calls, UNKNOWN, "proof(2, 11, " + of, x -> x.proof(2, 11, odds, cost));
                add(calls, UNKNOWN, "proof(0, -1, " + of, x -> x.proof(0, -1, odds, cost));
                add(calls, UNKNOWN, "proof(1, 12, " + of, x -> x.proof(1, 12, odds, cost));
                add(calls, UNKNOWN, "proof(least, greatest, " + of, x -> x.proof(LEAST, GREATEST, odds, cost));
                boolean isGood = (odds == 0 || odds == 1000) && (cost == 0 || cost == 99);
                if (!isGood) add(calls, OUTSIDE, "proof(1, 11, " + of, x -> x.proof(1, 11, odds, cost));
            }
        }
        for (int off : new int[] {LEAST, -1, 16, 32, GREATEST}) {
            add(calls, UNKNOWN, "bring(" + off + ", true)", x -> x.bring(off, true));
            add(calls, UNKNOWN, "bring(" + off + ", false)", x -> x.bring(off, false));
            for (int what : new int[] {LEAST, -1, 0, 5, 6, GREATEST}) {
                add(calls, UNKNOWN, "proved(" + off + ", " + what + ")", x -> x.proved(off, what));
            }
        }
        for (int off : new int[] {LEAST, -1, 12, 32, GREATEST}) {
            add(calls, UNKNOWN, "likely(" + off + ")", x -> x.likely(off));
        }
        for (int off : new int[] {LEAST, -1, 2, GREATEST}) {
            add(calls, UNKNOWN, "worth(" + off + ")", x -> x.worth(off));
            for (int what : new int[] {LEAST, -1, 0, 2, 3, GREATEST}) {
                add(calls, UNKNOWN, "game(" + off + ", " + what + ")", x -> x.game(off, what));
                for (int m : new int[] {LEAST, -1, 0, 9999, 10000, GREATEST}) {
                    add(calls, UNKNOWN, "best(" + off + ", " + m + ", " + what + ")", x -> x.best(off, m, what));
                }
            }
        }
        for (int side = 0; side < 2; side++) addQuestionsOf(side, calls);
    }

    private static void addQuestionsOf(int side, List<Refused> calls) {
        for (int what : new int[] {LEAST, -1, 0, 2, 3, GREATEST}) {
            boolean isGood = what == 0 || what == 2;
            if (!isGood) add(calls, OUTSIDE, "game(" + side + ", " + what + ")", x -> x.game(side, what));
            for (int m : new int[] {LEAST, -1, 0, 9999, 10000, GREATEST}) {
                if (isGood && (m == 0 || m == 9999)) continue;
                add(calls, OUTSIDE, "best(" + side + ", " + m + ", " + what + ")", x -> x.best(side, m, what));
            }
        }
    }

    private static void addOtherwise(List<Refused> calls) {
        for (int off : new int[] {LEAST, -1, 10, GREATEST}) {
            add(calls, UNKNOWN, "without(" + off + ")", x -> x.without(off));
        }
        for (int v : new int[] {LEAST, -2, -1}) add(calls, OUTSIDE, "seed(" + v + ")", x -> x.seed(v));
        for (int off : new int[] {LEAST, -1, 2, GREATEST}) {
            add(calls, UNKNOWN, "keep(" + off + ")", x -> x.keep(off));
            add(calls, UNKNOWN, "goBack(" + off + ")", x -> x.goBack(off));
        }
    }

    // ---- refusals of one suit

    private static List<Refused> ofNothing() {
        List<Refused> calls = new ArrayList<>();
        add(calls, NOT, "strike()", x -> x.strike());
        add(calls, NOT, "goBack(0)", x -> x.goBack(0));
        add(calls, NOT, "goBack(1)", x -> x.goBack(1));
        for (int what = -1; what <= 6; what++) {
            int it = what;
            add(calls, UNKNOWN, "told(0, " + it + ")", x -> x.told(0, it));
            add(calls, UNKNOWN, "heard(0, " + it + ")", x -> x.heard(0, it));
            add(calls, UNKNOWN, "proved(0, " + it + ")", x -> x.proved(0, it));
        }
        add(calls, UNKNOWN, "holds(0, 0)", x -> x.holds(0, 0));
        add(calls, UNKNOWN, "turns(0)", x -> x.turns(0));
        add(calls, UNKNOWN, "enough(0)", x -> x.enough(0));
        add(calls, UNKNOWN, "silence(0, 0)", x -> x.silence(0, 0));
        add(calls, UNKNOWN, "bring(0, true)", x -> x.bring(0, true));
        add(calls, UNKNOWN, "chance(0)", x -> x.chance(0));
        add(calls, UNKNOWN, "without(0)", x -> x.without(0));
        for (int f = 0; f < 12; f++) {
            int fact = f;
            add(calls, NOT, "likely(" + f + ")", x -> x.likely(fact));
        }
        return calls;
    }

    private static List<Refused> ofSome() {
        List<Refused> calls = new ArrayList<>();
        for (int off : new int[] {LEAST, -1, 3, GREATEST}) {
            add(calls, OUTSIDE, "told(1, " + off + ")", x -> x.told(1, off));
            add(calls, OUTSIDE, "heard(2, " + (off == 3 ? 4 : off) + ")", x -> x.heard(2, off == 3 ? 4 : off));
            add(calls, OUTSIDE, "proved(2, " + (off == 3 ? 6 : off) + ")", x -> x.proved(2, off == 3 ? 6 : off));
        }
        add(calls, UNKNOWN, "told(2, 3)", x -> x.told(2, 3));
        add(calls, UNKNOWN, "heard(3, 4)", x -> x.heard(3, 4));
        add(calls, UNKNOWN, "proved(3, 6)", x -> x.proved(3, 6));
        add(calls, UNKNOWN, "bring(3, true)", x -> x.bring(3, true));
        add(calls, UNKNOWN, "without(3)", x -> x.without(3));
        add(calls, UNKNOWN, "holds(0, bits that are not open)", x -> x.holds(0, 4));
        add(calls, NOT, "silence(0, 1), neither sure nor lost", x -> x.silence(0, 1));
        add(calls, NOT, "likely(2), admitted", x -> x.likely(2));
        add(calls, NOT, "likely(7), free", x -> x.likely(7));
        add(calls, NOT, "paper(16), earlier", x -> x.paper(16));
        add(calls, NOT, "paper(0), earlier", x -> x.paper(0));
        add(calls, NOT, "goBack(0), not kept", x -> x.goBack(0));
        return calls;
    }

    private static List<Refused> ofALongText() {
        List<Refused> calls = new ArrayList<>();
        add(calls, NOT, "claim(), 121 bytes", x -> x.claim());
        add(calls, NOT, "paper(16), earlier", x -> x.paper(16));
        add(calls, OUTSIDE, "paper(1000)", x -> x.paper(1000));
        return calls;
    }

    private static List<Refused> ofAShortText() {
        List<Refused> calls = new ArrayList<>();
        add(calls, FULL, "claim()", x -> x.claim());
        add(calls, FULL, "paper(950)", x -> x.paper(950));
        add(calls, NOT, "paper(949): NOT ahead of FULL", x -> x.paper(949));
        add(calls, OUTSIDE, "paper(-1): OUTSIDE ahead of FULL", x -> x.paper(-1));
        return calls;
    }

    private static List<Refused> ofFull() {
        List<Refused> calls = new ArrayList<>();
        for (int n = 1; n <= 8; n++) {
            int bytes = n;
            add(calls, FULL, "feed(" + n + ", -1)", x -> x.feed(bytes, -1));
        }
        add(calls, NOT, "claim(), 160 bytes: NOT ahead of FULL", x -> x.claim());
        add(calls, FULL, "paper(950)", x -> x.paper(950));
        add(calls, FULL, "paper(999)", x -> x.paper(999));
        add(calls, NOT, "paper(949): NOT ahead of FULL", x -> x.paper(949));
        add(calls, NOT, "paper(0): NOT ahead of FULL", x -> x.paper(0));
        for (int odds : new int[] {0, 1000}) {
            add(calls, FULL, "proof(0, 0, " + odds + ", 0)", x -> x.proof(0, 0, odds, 0));
            add(calls, FULL, "proof(1, 11, " + odds + ", 99)", x -> x.proof(1, 11, odds, 99));
        }
        return calls;
    }
}
