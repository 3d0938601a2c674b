import java.util.ArrayList;
import java.util.Comparator;
import java.util.List;

/**
 * The document once more, as slowly and plainly as it can be told, with all of the Java library: what PleaPapers
 * answers is compared with what this answers.
 */
final class Model {
    static final int NONE = -1, UNKNOWN = -100000001, OUTSIDE = -100000002, NOT = -100000003, FULL = -100000004;

    /** An expression: op is one of "fact", "not", "and", "or". */
    record Node(String op, int fact, Node left, Node right) { }

    record Claim(int coins, Node root, int factSet) { }

    record Item(String clause, int fact, boolean isSo) { }

    record Paper(int day, boolean late, List<Item> items) { }

    record Proof(int side, int fact, int odds, int cost, boolean brought) { }

    record Token(char kind, int place, String text) { }

    /** A fault ends reading; the object under test has to do without exceptions, this has not. */
    static final class Fault extends RuntimeException {
        private static final long serialVersionUID = 1;

        final int number;
        final int place;

        Fault(int number, int place) {
            this.number = number;
            this.place = place;
        }
    }

    static final class Stand {
        String how = "free";
        int word = NONE, sayer = NONE, saidIn = NONE, answeredIn = NONE;
    }

    record Image(List<Claim> claims, List<Paper> papers, List<Proof> proofs, int due, int seed) { }

    private final StringBuilder text = new StringBuilder();
    private List<Claim> claims = new ArrayList<>();
    private List<Paper> papers = new ArrayList<>();
    private List<Proof> proofs = new ArrayList<>();
    private int due = 20;
    private int seed = 0;
    private int faultPlace = NONE;
    private final Image[] images = new Image[2];

    // ---- texts

    int feed(int n, long bytes) {
        if (n < 1 || n > 8) return OUTSIDE;
        if (text.length() + n > 160) return FULL;
        for (int i = 8 - n; i < 8; i++) text.append((char) ((bytes << 8 * i) >>> 56));
        return text.length();
    }

    int claim() {
        if (text.length() > 120) return NOT;
        if (claims.size() == 6) return FULL;
        String told = text.toString();
        text.setLength(0);
        try {
            claims.add(readClaim(told));
            faultPlace = NONE;
            return claims.size() - 1;
        } catch (Fault fault) {
            faultPlace = fault.place;
            return -10 - fault.number;
        }
    }

    int paper(int day) {
        if (day < 0 || day > 999) return OUTSIDE;
        int before = papers.isEmpty() ? day : papers.get(papers.size() - 1).day;
        if (day < before) return NOT;
        if (papers.size() == 10) return FULL;
        String told = text.toString();
        text.setLength(0);
        try {
            List<Item> items = readPaper(told);
            papers.add(new Paper(day, day > before + due, items));
            faultPlace = NONE;
            return papers.size() - 1;
        } catch (Fault fault) {
            faultPlace = fault.place;
            return -10 - fault.number;
        }
    }

    int fault() {
        return faultPlace;
    }

    int due(int v) {
        if (v < 1 || v > 99) return OUTSIDE;
        int was = due;
        due = v;
        return was;
    }

    int count(int what) {
        if (what < 0 || what > 8) return OUTSIDE;
        if (what == 0) return claims.size();
        if (what == 1) return papers.size();
        if (what == 2) return proofs.size();
        if (what == 3) return text.length();
        String how = List.of("free", "awaits", "admitted", "denied", "doubted").get(what - 4);
        int sum = 0;
        for (Stand stand : stands(NONE)) if (stand.how.equals(how)) sum++;
        return sum;
    }

    int fact(int f, int what) {
        if (f < 0 || f > 11) return UNKNOWN;
        if (what < 0 || what > 4) return OUTSIDE;
        Stand stand = stands(NONE)[f];
        return switch (what) {
            case 0 -> List.of("free", "awaits", "admitted", "denied", "doubted").indexOf(stand.how);
            case 1 -> stand.word;
            case 2 -> stand.sayer;
            case 3 -> stand.saidIn;
            default -> stand.answeredIn;
        };
    }

    int told(int c, int what) {
        if (c < 0 || c >= claims.size()) return UNKNOWN;
        if (what < 0 || what > 2) return OUTSIDE;
        if (what == 0) return claims.get(c).coins;
        if (what == 1) return claims.get(c).factSet;
        return sureness(claims.get(c), stands(NONE));
    }

    int heard(int p, int what) {
        if (p < 0 || p >= papers.size()) return UNKNOWN;
        if (what < 0 || what > 3) return OUTSIDE;
        Paper paper = papers.get(p);
        if (what == 0) return paper.day;
        if (what == 1) return paper.late ? 1 : 0;
        int set = 0;
        if (what == 2) {
            for (Item item : paper.items) set |= 1 << item.fact;
            return set;
        }
        Stand[] stands = stands(NONE);
        for (int f = 0; f < 12; f++) {
            int g = f;
            boolean byWord = !paper.late && paper.items.stream().anyMatch(i -> i.fact == g && i.clause.equals("admit"));
            if (stands[f].how.equals("admitted") && stands[f].answeredIn == p && !byWord) set |= 1 << f;
        }
        return set;
    }

    int strike() {
        if (papers.isEmpty()) return NOT;
        papers.remove(papers.size() - 1);
        return papers.size();
    }

    // ---- what holds

    int open() {
        return openSet(stands(NONE));
    }

    int holds(int c, int set) {
        if (c < 0 || c >= claims.size()) return UNKNOWN;
        Stand[] stands = stands(NONE);
        for (int k = 0; k < 32; k++) {
            if ((set >>> k & 1) == 1 && (k > 11 || !isOpen(stands[k]))) return UNKNOWN;
        }
        return holdsBy(claims.get(c), stands, set) ? 1 : 0;
    }

    int turns(int c) {
        if (c < 0 || c >= claims.size()) return UNKNOWN;
        Stand[] stands = stands(NONE);
        int set = 0;
        for (int f = 0; f < 12; f++) {
            if (!isOpen(stands[f])) continue;
            for (int way : ways(stands)) {
                if (holdsBy(claims.get(c), stands, way | 1 << f) != holdsBy(claims.get(c), stands, way & ~(1 << f))) {
                    set |= 1 << f;
                }
            }
        }
        return set;
    }

    int enough(int c) {
        if (c < 0 || c >= claims.size()) return UNKNOWN;
        Stand[] stands = stands(NONE);
        if (Integer.bitCount(openSet(stands)) > 8) return NOT;
        List<Integer> found = new ArrayList<>();
        for (int set : ways(stands)) {
            boolean all = true;
            for (int way : ways(stands)) {
                if ((way & set) == set && !holdsBy(claims.get(c), stands, way)) all = false;
            }
            if (all) found.add(set);
        }
        return fewest(found);
    }

    int silence(int c, int side) {
        if (c < 0 || c >= claims.size() || side < 0 || side > 1) return UNKNOWN;
        Stand[] stands = stands(NONE);
        int sure = sureness(claims.get(c), stands);
        if (sure == NONE) return NOT;
        List<Integer> found = new ArrayList<>();
        for (int set = 1; set < 4096; set++) {
            boolean fits = true;
            Stand[] denied = stands(NONE);
            for (int f = 0; f < 12; f++) {
                if ((set >> f & 1) == 0) continue;
                if (!stands[f].how.equals("admitted") || stands[f].sayer == side) fits = false;
                denied[f].how = "denied";
            }
            if (fits && sureness(claims.get(c), denied) != sure) found.add(set);
        }
        return fewest(found);
    }

    // ---- proofs

    int proof(int side, int f, int odds, int cost) {
        if (side < 0 || side > 1 || f < 0 || f > 11) return UNKNOWN;
        if (odds < 0 || odds > 1000 || cost < 0 || cost > 99) return OUTSIDE;
        if (proofs.size() == 16) return FULL;
        proofs.add(new Proof(side, f, odds, cost, false));
        return proofs.size() - 1;
    }

    int bring(int k, boolean is) {
        if (k < 0 || k >= proofs.size()) return UNKNOWN;
        Proof was = proofs.get(k);
        proofs.set(k, new Proof(was.side, was.fact, was.odds, was.cost, is));
        return was.brought ? 1 : 0;
    }

    int proved(int k, int what) {
        if (k < 0 || k >= proofs.size()) return UNKNOWN;
        if (what < 0 || what > 5) return OUTSIDE;
        Proof proof = proofs.get(k);
        return switch (what) {
            case 0 -> proof.side;
            case 1 -> proof.fact;
            case 2 -> proof.odds;
            case 3 -> proof.cost;
            case 4 -> proof.brought ? 1 : 0;
            default -> bearing(proof, stands(NONE));
        };
    }

    int likely(int f) {
        if (f < 0 || f > 11) return UNKNOWN;
        Stand[] stands = stands(NONE);
        return isOpen(stands[f]) ? likelyOf(f, stands, brought()) : NOT;
    }

    int chance(int c) {
        if (c < 0 || c >= claims.size()) return UNKNOWN;
        return chanceOf(claims.get(c), stands(NONE), brought());
    }

    int worth(int side) {
        if (side < 0 || side > 1) return UNKNOWN;
        return worthTo(side, stands(NONE), brought());
    }

    int best(int side, int m, int what) {
        if (side < 0 || side > 1) return UNKNOWN;
        if (m < 0 || m > 9999 || what < 0 || what > 2) return OUTSIDE;
        Stand[] stands = stands(NONE);
        List<int[]> rows = new ArrayList<>();
        for (int set : subsets(firstUnbrought(side, 8))) {
            if (cost(set) <= m) {
                int value = worthTo(side, stands, brought() | set) - 1000 * cost(set);
                rows.add(new int[] {set, value, cost(set)});
            }
        }
        rows.sort(Comparator.<int[]>comparingInt(r -> -r[1]).thenComparingInt(r -> r[2]).thenComparingInt(r -> r[0]));
        return rows.get(0)[what];
    }

    int game(int side, int what) {
        if (side < 0 || side > 1) return UNKNOWN;
        if (what < 0 || what > 2) return OUTSIDE;
        Stand[] stands = stands(NONE);
        List<int[]> rows = new ArrayList<>();
        for (int lead : subsets(firstUnbrought(side, 4))) {
            List<int[]> replies = new ArrayList<>();
            for (int reply : subsets(firstUnbrought(1 - side, 4))) {
                int all = brought() | lead | reply;
                replies.add(new int[] {lead, reply, worthTo(side, stands, all) - 1000 * cost(lead),
                    worthTo(1 - side, stands, all) - 1000 * cost(reply)});
            }
            replies.sort(Comparator.<int[]>comparingInt(r -> -r[3]).thenComparingInt(r -> r[1]));
            rows.add(replies.get(0));
        }
        rows.sort(Comparator.<int[]>comparingInt(r -> -r[2]).thenComparingInt(r -> r[0]));
        return rows.get(0)[what];
    }

    // ---- otherwise, trials

    int without(int p) {
        if (p < 0 || p >= papers.size()) return UNKNOWN;
        return worthTo(0, stands(p), brought());
    }

    int seed(int v) {
        if (v < 0) return OUTSIDE;
        int was = seed;
        seed = v;
        return was;
    }

    int trial() {
        Stand[] stands = stands(NONE);
        int shown = 0;
        for (int f = 0; f < 12; f++) {
            if (!isOpen(stands[f])) continue;
            seed = new java.math.BigInteger("1103515245").multiply(java.math.BigInteger.valueOf(seed))
                .add(java.math.BigInteger.valueOf(12345)).mod(java.math.BigInteger.ONE.shiftLeft(31)).intValueExact();
            if (seed / 65536 % 1000 < likelyOf(f, stands, brought())) shown |= 1 << f;
        }
        int sum = 0;
        for (Claim claim : claims) if (holdsBy(claim, stands, shown)) sum += claim.coins;
        return sum;
    }

    // ---- images

    int keep(int i) {
        if (i < 0 || i > 1) return UNKNOWN;
        images[i] = new Image(List.copyOf(claims), List.copyOf(papers), List.copyOf(proofs), due, seed);
        return 1;
    }

    int goBack(int i) {
        if (i < 0 || i > 1) return UNKNOWN;
        if (images[i] == null) return NOT;
        claims = new ArrayList<>(images[i].claims);
        papers = new ArrayList<>(images[i].papers);
        proofs = new ArrayList<>(images[i].proofs);
        due = images[i].due;
        seed = images[i].seed;
        return 1;
    }

    // ---- reading

    private static List<Token> tokens(String text) {
        List<Token> tokens = new ArrayList<>();
        java.util.regex.Matcher m = java.util.regex.Pattern.compile("[a-z]+|[0-9]+|[^ ]", java.util.regex.Pattern.DOTALL)
            .matcher(text);
        while (m.find()) {
            char first = m.group().charAt(0);
            char kind = first >= 'a' && first <= 'z' ? 'w' : first >= '0' && first <= '9' ? 'n' : 's';
            tokens.add(new Token(kind, m.start(), m.group()));
        }
        tokens.add(new Token('e', text.length(), ""));
        return tokens;
    }

    private static int number(Token token, int least, int most) {
        if (token.kind != 'n') throw new Fault(1, token.place);
        if (token.text.length() > 3) throw new Fault(2, token.place);
        int value = Integer.parseInt(token.text);
        if (value < least || value > most) throw new Fault(2, token.place);
        return value;
    }

    /** By a stack of what is open: "not", "(", "and", "or", in place of the grammar's rules. */
    private static Claim readClaim(String told) {
        List<Token> tokens = tokens(told);
        Token head = tokens.get(0);
        if (!head.text.equals("pay") && !head.text.equals("owe")) throw new Fault(1, head.place);
        int coins = number(tokens.get(1), 1, 999);
        if (!tokens.get(2).text.equals("if")) throw new Fault(1, tokens.get(2).place);
        List<String> ops = new ArrayList<>();
        List<Node> nodes = new ArrayList<>();
        int factSet = 0;
        boolean wantsOne = true;
        for (Token token : tokens.subList(3, tokens.size())) {
            String t = token.text;
            if (wantsOne) {
                if (t.equals("not") || t.equals("(")) {
                    if (ops.stream().filter(o -> o.equals("not") || o.equals("(")).count() == 8) {
                        throw new Fault(3, token.place);
                    }
                    ops.add(t);
                    continue;
                }
                int f = number(token, 0, 11);
                factSet |= 1 << f;
                nodes.add(new Node("fact", f, null, null));
                wantsOne = false;
                closeNots(ops, nodes);
                continue;
            }
            if (t.equals("and") || t.equals("or")) {
                while (last(ops).equals("and") || t.equals("or") && last(ops).equals("or")) join(ops, nodes);
                ops.add(t);
                wantsOne = true;
            } else if (t.equals(")") && ops.contains("(") || token.kind == 'e' && !ops.contains("(")) {
                while (!ops.isEmpty() && !last(ops).equals("(")) join(ops, nodes);
                if (token.kind != 'e') ops.remove(ops.size() - 1);
                closeNots(ops, nodes);
            } else {
                throw new Fault(1, token.place);
            }
        }
        return new Claim(head.text.equals("pay") ? coins : -coins, nodes.get(0), factSet);
    }

    private static String last(List<String> ops) {
        return ops.isEmpty() ? "" : ops.get(ops.size() - 1);
    }

    private static void closeNots(List<String> ops, List<Node> nodes) {
        while (last(ops).equals("not")) {
            ops.remove(ops.size() - 1);
            nodes.add(new Node("not", 0, nodes.remove(nodes.size() - 1), null));
        }
    }

    private static void join(List<String> ops, List<Node> nodes) {
        Node right = nodes.remove(nodes.size() - 1);
        Node left = nodes.remove(nodes.size() - 1);
        nodes.add(new Node(ops.remove(ops.size() - 1), 0, left, right));
    }

    private List<Item> readPaper(String told) {
        Stand[] stands = stands(NONE);
        int side = papers.size() % 2;
        List<Item> items = new ArrayList<>();
        List<String> clauses = new ArrayList<>();
        List<Token> tokens = tokens(told);
        int i = 0;
        while (tokens.get(i).kind != 'e') {
            Token clause = tokens.get(i++);
            if (!List.of("say", "admit", "deny", "doubt", "take").contains(clause.text)) throw new Fault(1, clause.place);
            if (clauses.contains(clause.text)) throw new Fault(3, clause.place);
            clauses.add(clause.text);
            Token behind;
            do {
                boolean isSo = true;
                if (clause.text.equals("say") && tokens.get(i).text.equals("not")) {
                    isSo = false;
                    i++;
                }
                Token token = tokens.get(i++);
                int f = number(token, 0, 11);
                if (items.stream().anyMatch(item -> item.fact == f)) throw new Fault(4, token.place);
                Item item = new Item(clause.text, f, isSo);
                if (isBarred(item, stands[f], side)) throw new Fault(5, token.place);
                items.add(item);
                behind = tokens.get(i++);
            } while (behind.text.equals(","));
            if (!behind.text.equals(";")) throw new Fault(1, behind.place);
        }
        return items;
    }

    // ---- facts

    private static boolean isBarred(Item item, Stand stand, int side) {
        if (item.clause.equals("say")) return !stand.how.equals("free");
        if (item.clause.equals("take")) {
            return stand.how.equals("free") || stand.sayer != side || stand.how.equals("admitted");
        }
        return !(stand.how.equals("awaits") && stand.sayer != side);
    }

    private Stand[] stands(int without) {
        Stand[] stands = new Stand[12];
        for (int f = 0; f < 12; f++) stands[f] = new Stand();
        for (int p = 0; p < papers.size(); p++) {
            Paper paper = papers.get(p);
            boolean deaf = paper.late || p == without;
            for (Item item : deaf ? List.<Item>of() : paper.items) {
                Stand stand = stands[item.fact];
                if (isBarred(item, stand, p % 2)) continue;
                if (item.clause.equals("say")) {
                    stand.how = "awaits";
                    stand.word = item.isSo ? 1 : 0;
                    stand.sayer = p % 2;
                    stand.saidIn = p;
                } else if (item.clause.equals("take")) {
                    stands[item.fact] = new Stand();
                } else {
                    stand.how = item.clause.equals("admit") ? "admitted" : item.clause.equals("deny") ? "denied" : "doubted";
                    stand.answeredIn = p;
                }
            }
            for (Stand stand : stands) {
                if (stand.how.equals("awaits") && stand.sayer != p % 2) {
                    stand.how = "admitted";
                    stand.answeredIn = p;
                }
            }
        }
        return stands;
    }

    private static boolean isOpen(Stand stand) {
        return !stand.how.equals("free") && !stand.how.equals("admitted");
    }

    private static int openSet(Stand[] stands) {
        int set = 0;
        for (int f = 0; f < 12; f++) if (isOpen(stands[f])) set |= 1 << f;
        return set;
    }

    private static List<Integer> subsets(int whole) {
        List<Integer> sets = new ArrayList<>();
        for (int set = 0; set <= whole; set++) if ((set & ~whole) == 0) sets.add(set);
        return sets;
    }

    private static List<Integer> ways(Stand[] stands) {
        return subsets(openSet(stands));
    }

    private static boolean holdsBy(Claim claim, Stand[] stands, int shown) {
        boolean[] so = new boolean[12];
        for (int f = 0; f < 12; f++) {
            if (stands[f].how.equals("free")) so[f] = false;
            else if (stands[f].how.equals("admitted")) so[f] = stands[f].word == 1;
            else so[f] = (stands[f].word == 1) == ((shown >> f & 1) == 1);
        }
        return value(claim.root, so);
    }

    private static boolean value(Node node, boolean[] so) {
        return switch (node.op) {
            case "fact" -> so[node.fact];
            case "not" -> !value(node.left, so);
            case "and" -> value(node.left, so) && value(node.right, so);
            default -> value(node.left, so) || value(node.right, so);
        };
    }

    private static int sureness(Claim claim, Stand[] stands) {
        boolean some = false;
        boolean all = true;
        for (int way : ways(stands)) {
            boolean holds = holdsBy(claim, stands, way);
            some |= holds;
            all &= holds;
        }
        return all ? 1 : some ? NONE : 0;
    }

    private static int fewest(List<Integer> sets) {
        return sets.stream().min(Comparator.<Integer>comparingInt(Integer::bitCount).thenComparingInt(s -> s)).orElse(NONE);
    }

    // ---- weighing

    private static int bearing(Proof proof, Stand[] stands) {
        Stand stand = stands[proof.fact];
        if (!isOpen(stand)) return NONE;
        if (stand.sayer == proof.side) return 1;
        return stand.how.equals("doubted") ? NONE : 0;
    }

    private int brought() {
        int set = 0;
        for (int k = 0; k < proofs.size(); k++) if (proofs.get(k).brought) set |= 1 << k;
        return set;
    }

    private int likelyOf(int f, Stand[] stands, int brought) {
        int left = 1000;
        for (int k = 0; k < proofs.size(); k++) {
            Proof proof = proofs.get(k);
            if ((brought >> k & 1) == 1 && proof.fact == f && bearing(proof, stands) == 1) {
                left = left * (1000 - proof.odds) / 1000;
            }
        }
        int likely = 1000 - left;
        for (int k = 0; k < proofs.size(); k++) {
            Proof proof = proofs.get(k);
            if ((brought >> k & 1) == 1 && proof.fact == f && bearing(proof, stands) == 0) {
                likely = likely * (1000 - proof.odds) / 1000;
            }
        }
        return likely;
    }

    private int chanceOf(Claim claim, Stand[] stands, int brought) {
        int[] likely = new int[12];
        for (int f = 0; f < 12; f++) likely[f] = likelyOf(f, stands, brought);
        int sum = 0;
        for (int way : ways(stands)) {
            if (!holdsBy(claim, stands, way)) continue;
            long weight = 1000000;
            for (int f = 0; f < 12; f++) {
                if (!isOpen(stands[f])) continue;
                weight = weight * ((way >> f & 1) == 1 ? likely[f] : 1000 - likely[f]) / 1000;
            }
            sum += (int) weight;
        }
        return sum;
    }

    private int worthTo(int side, Stand[] stands, int brought) {
        int sum = 0;
        for (Claim claim : claims) {
            int part = (int) ((long) Math.abs(claim.coins) * chanceOf(claim, stands, brought) / 1000);
            sum += claim.coins > 0 ? part : -part;
        }
        return side == 0 ? sum : -sum;
    }

    private int cost(int set) {
        int sum = 0;
        for (int k = 0; k < proofs.size(); k++) if ((set >> k & 1) == 1) sum += proofs.get(k).cost;
        return sum;
    }

    private int firstUnbrought(int side, int most) {
        int set = 0;
        for (int k = 0; k < proofs.size(); k++) {
            Proof proof = proofs.get(k);
            if (proof.side == side && !proof.brought && Integer.bitCount(set) < most) set |= 1 << k;
        }
        return set;
    }
}
