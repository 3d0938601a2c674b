import java.util.Random;

/** Long runs of calls by chance, each answered by PleaPapers as by Model. */
public final class ModelTest {
    /** An object is used for at most 512 calls, and a step may make some dozens. */
    private static final int CALLS = 512 - 72;
    private static int wrong = 0;

    private final int run;
    private final Random chance;
    private final PleaPapers x = new PleaPapers();
    private final Model model = new Model();
    private final int[] weights;
    private int calls = 0;
    private int day = 0;
    private int oneLateOf = 10;

    private ModelTest(int run) {
        this.run = run;
        chance = new Random(run);
        weights = new int[] {8, 12, 6, 2, 6, 3, 8};
        weights[chance.nextInt(weights.length)] *= 4;
    }

    public static void main(String[] args) {
        int runs = args.length > 0 ? Integer.parseInt(args[0]) : 400;
        for (int run = 0; run < runs && wrong < 20; run++) {
            ModelTest test = new ModelTest(run);
            switch (run % 4) {
                case 0 -> test.playForProofs();
                case 1 -> test.playForImages();
                default -> test.play();
            }
        }
        System.out.println(wrong == 0 ? "all runs answer as the model does" : wrong + " answers are not the model's");
        if (wrong != 0) System.exit(1);
    }

    private void play() {
        int before = wrong;
        while (calls < CALLS && wrong == before) {
            step();
        }
    }

    /** Claims, papers and proofs first, so that there is much to bring, then questions about it. */
    private void playForProofs() {
        int before = wrong;
        for (int c = 1 + any(6); c > 0; c--) {
            feed((any(2) == 0 ? "pay " : "owe ") + (1 + any(300)) + " if " + any(0, 3));
            check("claim()", x.claim(), model.claim());
        }
        int said = any(256) << any(5);
        feed("say " + items(said) + ";");
        check("paper(0)", x.paper(0), model.paper(0));
        int denied = said & any(4096);
        int doubted = said & ~denied & any(4096);
        int back = ~said & any(4096) & any(4096) & any(4096);
        feed(clause("deny ", denied) + clause("doubt ", doubted) + clause("say ", back));
        check("paper(1)", x.paper(1), model.paper(1));
        for (int k = 0; k < 16; k++) {
            int f = around(12);
            for (int i = 0; i < 6 && (model.open() >> f & 1) == 0; i++) f = any(12);
            int side = any(2);
            int odds = any(1001);
            int cost = any(3) == 0 ? any(40) : any(8);
            check("proof(" + side + ", " + f + ", " + odds + ", " + cost + ")", x.proof(side, f, odds, cost),
                model.proof(side, f, odds, cost));
            boolean is = any(3) == 0;
            check("bring(" + k + ", " + is + ")", x.bring(k, is), model.bring(k, is));
        }
        for (int n = 0; n < 5 && wrong == before; n++) {
            askAllOfProofs();
        }
    }

    /** Papers, many of them late, claims and proofs in and out by images that are few papers apart. */
    private void playForImages() {
        int before = wrong;
        oneLateOf = 2;
        while (calls < CALLS && wrong == before) {
            int i = any(2);
            switch (any(9)) {
                case 0 -> strikeSome(4);
                case 1 -> check("keep(" + i + ")", x.keep(i), model.keep(i));
                case 2, 3 -> check("goBack(" + i + ")", x.goBack(i), model.goBack(i));
                case 4 -> tellClaim();
                case 5 -> tellProof();
                default -> tellPaper();
            }
            day = lastDay();
            for (int p = 0; p < model.count(1); p++) check("heard(" + p + ", 1)", x.heard(p, 1), model.heard(p, 1));
            for (int c = 0; c < model.count(0); c++) check("told(" + c + ", 0)", x.told(c, 0), model.told(c, 0));
            int what = any(5);
            for (int k = 0; k < model.count(2); k++) {
                check("proved(" + k + ", " + what + ")", x.proved(k, what), model.proved(k, what));
            }
            askFacts();
        }
    }

    private void strikeSome(int most) {
        for (int k = any(most); k > 0; k--) check("strike()", x.strike(), model.strike());
    }

    private int lastDay() {
        return model.count(1) > 0 ? model.heard(model.count(1) - 1, 0) : 0;
    }

    private void askAllOfProofs() {
        for (int side = 0; side < 2; side++) {
            int m = any(3) == 0 ? 9999 : any(60);
            for (int what = 0; what < 3; what++) {
                check("best(" + side + ", " + m + ", " + what + ")", x.best(side, m, what), model.best(side, m, what));
                check("game(" + side + ", " + what + ")", x.game(side, what), model.game(side, what));
            }
        }
        for (int f = 0; f < 12; f++) check("likely(" + f + ")", x.likely(f), model.likely(f));
        for (int c = 0; c < 6; c++) check("chance(" + c + ")", x.chance(c), model.chance(c));
        for (int p = 0; p < 2; p++) check("without(" + p + ")", x.without(p), model.without(p));
        for (int n = 0; n < 5; n++) check("trial()", x.trial(), model.trial());
        int k = any(16);
        boolean is = any(2) == 0;
        check("bring(" + k + ", " + is + ")", x.bring(k, is), model.bring(k, is));
    }

    private String clause(String head, int set) {
        return set == 0 ? "" : head + items(set) + ";";
    }

    private String items(int set) {
        StringBuilder s = new StringBuilder();
        for (int f = 0; f < 12; f++) {
            if ((set >> f & 1) == 1) s.append(s.length() == 0 ? "" : ",").append(f);
        }
        return s.toString();
    }

    private void check(String call, int got, int want) {
        calls++;
        if (got != want) {
            wrong++;
            String place = "run " + run + ", call " + calls + ": ";
            System.out.println(place + call + " answered " + got + ", due is " + want);
        }
    }

    private int any(int n) {
        return chance.nextInt(n);
    }

    /** Mostly a number from 0 below n, at times one a little outside, seldom one far off. */
    private int around(int n) {
        int kind = any(40);
        if (kind == 0) return -1 - any(2);
        if (kind == 1) return n + any(2);
        if (kind == 2) return chance.nextInt();
        return any(n);
    }

    private void step() {
        int sum = 0;
        for (int weight : weights) sum += weight;
        int at = any(sum);
        int kind = 0;
        while (at >= weights[kind]) at -= weights[kind++];
        switch (kind) {
            case 0 -> tellClaim();
            case 1 -> tellPaper();
            case 2 -> tellProof();
            case 3 -> change();
            case 4 -> askFacts();
            case 5 -> askClaims();
            default -> askProofs();
        }
    }

    // ---- texts by chance

    private void tellClaim() {
        if (model.count(0) == 6 && any(30) != 0) return;
        feed(spoil((any(2) == 0 ? "pay " : "owe ") + number(1 + any(999)) + " if " + any(0, 2 + any(3))));
        check("claim()", x.claim(), model.claim());
        check("fault()", x.fault(), model.fault());
    }

    private String number(int v) {
        return any(20) == 0 ? String.format("%03d", v) : any(50) == 0 ? "0" + v : "" + v;
    }

    private String blank() {
        return any(6) == 0 ? "  " : " ";
    }

    private String any(int depth, int size) {
        StringBuilder s = new StringBuilder();
        int parts = 1 + any(size);
        for (int i = 0; i < parts; i++) {
            if (i > 0) s.append(blank()).append(any(2) == 0 ? "and" : "or").append(blank());
            s.append(one(depth));
        }
        return s.toString();
    }

    private String one(int depth) {
        if (depth < 10 && any(5) == 0) return "not" + blank() + one(depth + 1);
        if (depth < 10 && any(4) == 0) return "(" + any(depth + 1, 3) + ")";
        if (any(60) == 0) return "((((((" + one(depth + 6) + "))))))";
        return number(any(100) == 0 ? 12 + any(30) : any(12));
    }

    private void tellPaper() {
        if (model.count(1) == 10 && any(10) != 0) {
            strikeSome(9);
            day = lastDay();
        }
        int late = any(oneLateOf) == 0 ? 15 + any(20) : any(4);
        int next = any(20) == 0 ? around(1000) : day + late;
        if (any(12) != 0) feed(spoil(paperText()));
        check("paper(" + next + ")", x.paper(next), model.paper(next));
        check("fault()", x.fault(), model.fault());
        day = lastDay();
    }

    private String paperText() {
        int side = model.count(1) % 2;
        String[] clauses = {"say", "admit", "deny", "doubt", "take"};
        String[] items = {"", "", "", "", ""};
        for (int f = 0; f < 12; f++) {
            int clause = clauseFor(f, side);
            if (clause < 0) continue;
            String item = clause == 0 && any(3) == 0 ? "not " + f : number(f);
            items[clause] += items[clause].isEmpty() ? item : "," + item;
        }
        StringBuilder s = new StringBuilder();
        int from = any(5);
        for (int i = 0; i < 5; i++) {
            int clause = (from + i) % 5;
            if (!items[clause].isEmpty()) s.append(clauses[clause]).append(' ').append(items[clause]).append(';');
        }
        if (any(30) == 0) s.append("say ").append(any(12)).append(';');
        return s.toString();
    }

    private int clauseFor(int f, int side) {
        if (any(60) == 0) return any(5);
        int stand = model.fact(f, 0);
        if (stand == 0) return any(3) == 0 ? 0 : -1;
        if (stand == 1) return any(8) == 0 ? -1 : 1 + Math.min(2, any(5) / 2 + any(2));
        return stand != 2 && model.fact(f, 2) == side && any(8) == 0 ? 4 : -1;
    }

    private String spoil(String text) {
        if (any(4) != 0 || text.isEmpty()) return text;
        int at = any(text.length() + 1);
        String signs = " ,;()0123456789abdefintnorwyx\u0000\u00ff`{/:AZ";
        String some = "" + signs.charAt(any(signs.length()));
        String[] words = {"not ", " and ", " or ", " if ", "say ", "take ", "1234", " 12", "12,", "not", ";", " "};
        if (any(3) == 0) some = words[any(words.length)];
        int to = any(2) == 0 ? at : Math.min(text.length(), at + 1 + any(3));
        return text.substring(0, at) + (any(4) == 0 ? "" : some) + text.substring(to);
    }

    private void feed(String text) {
        for (int i = 0; i < text.length(); ) {
            int n = Math.min(text.length() - i, any(10) == 0 ? 1 + any(8) : 8);
            long bytes = chance.nextLong();
            for (int k = 0; k < n; k++) bytes = bytes << 8 | text.charAt(i + k);
            check("feed(" + n + ", " + bytes + ")", x.feed(n, bytes), model.feed(n, bytes));
            i += n;
        }
    }

    // ---- other calls by chance

    private void tellProof() {
        int side = around(2);
        int f = around(12);
        for (int i = 0; i < 6 && (model.open() >> f & 1) == 0; i++) f = any(12);
        int odds = any(8) == 0 ? 1000 * any(2) : around(1001);
        int cost = any(6) == 0 ? around(100) : any(any(2) == 0 ? 4 : 30);
        if (model.count(2) < 16 || any(8) == 0) {
            check("proof(" + side + ", " + f + ", " + odds + ", " + cost + ")", x.proof(side, f, odds, cost),
                model.proof(side, f, odds, cost));
        }
        int k = around(Math.max(1, model.count(2)));
        boolean is = any(3) == 0;
        check("bring(" + k + ", " + is + ")", x.bring(k, is), model.bring(k, is));
    }

    private void change() {
        int i = around(2);
        int v = any(4) == 0 ? around(100) : 5 + any(30);
        int s = any(8) == 0 ? chance.nextInt() : any(Integer.MAX_VALUE);
        int n = 1 + any(60);
        switch (any(7)) {
            case 0 -> check("keep(" + i + ")", x.keep(i), model.keep(i));
            case 1 -> check("goBack(" + i + ")", x.goBack(i), model.goBack(i));
            case 2 -> check("due(" + v + ")", x.due(v), model.due(v));
            case 3 -> check("seed(" + s + ")", x.seed(s), model.seed(s));
            case 4 -> {
                if (any(6) == 0) check("feed(" + n + ", 0)", x.feed(n, 0), model.feed(n, 0));
            }
            default -> strikeSome(4);
        }
        day = lastDay();
    }

    private void askFacts() {
        int what = around(9);
        check("count(" + what + ")", x.count(what), model.count(what));
        check("open()", x.open(), model.open());
        int f = around(12);
        int of = around(5);
        check("fact(" + f + ", " + of + ")", x.fact(f, of), model.fact(f, of));
        int p = around(Math.max(1, model.count(1)));
        int it = around(4);
        check("heard(" + p + ", " + it + ")", x.heard(p, it), model.heard(p, it));
        check("without(" + p + ")", x.without(p), model.without(p));
    }

    private void askClaims() {
        int c = around(Math.max(1, model.count(0)));
        int what = around(3);
        int set = any(8) == 0 ? chance.nextInt() : any(4096) & model.open();
        int side = around(2);
        check("told(" + c + ", " + what + ")", x.told(c, what), model.told(c, what));
        check("told(" + c + ", 2)", x.told(c, 2), model.told(c, 2));
        check("holds(" + c + ", " + set + ")", x.holds(c, set), model.holds(c, set));
        if (Integer.bitCount(model.open()) < 10 || any(20) == 0) {
            check("turns(" + c + ")", x.turns(c), model.turns(c));
        }
        check("enough(" + c + ")", x.enough(c), model.enough(c));
        check("silence(" + c + ", " + side + ")", x.silence(c, side), model.silence(c, side));
    }

    private void askProofs() {
        int f = around(12);
        int side = around(2);
        check("likely(" + f + ")", x.likely(f), model.likely(f));
        check("worth(" + side + ")", x.worth(side), model.worth(side));
        check("trial()", x.trial(), model.trial());
        int c = around(Math.max(1, model.count(0)));
        check("chance(" + c + ")", x.chance(c), model.chance(c));
        int k = around(Math.max(1, model.count(2)));
        int of = around(6);
        check("proved(" + k + ", " + of + ")", x.proved(k, of), model.proved(k, of));
        if (Integer.bitCount(model.open()) > 7 && any(30) != 0 || any(3) != 0) return;
        int m = any(10) == 0 ? around(10000) : any(40);
        int what = around(3);
        check("best(" + side + ", " + m + ", " + what + ")", x.best(side, m, what), model.best(side, m, what));
        check("game(" + side + ", " + what + ")", x.game(side, what), model.game(side, what));
    }
}
