/**
 * Papers in a suit: what two sides say and answer by turns, what of it is admitted, denied, doubted or taken back,
 * which claims are owed then, how likely they are, and which proofs are worth bringing.
 */
public final class PleaPapers {
    public static final int NONE = -1, UNKNOWN = -100000001, OUTSIDE = -100000002, NOT = -100000003, FULL = -100000004;

    private static final int SIDES = 2, FACTS = 12, CLAIMS = 6, PAPERS = 10, PROOFS = 16, IMAGES = 2;
    private static final int TEXT_BYTES = 160, CLAIM_BYTES = 120, MOST_COINS = 999, LAST_DAY = 999;
    private static final int FIRST_DUE = 20, MOST_DUE = 99, MOST_ODDS = 1000, MOST_COST = 99, MOST_PURSE = 9999;
    private static final int THOUSAND = 1000, MILLION = 1000000;
    private static final int DEEPEST = 8, ENOUGH_FACTS = 8, BEST_PROOFS = 8, GAME_PROOFS = 4;

    /** How a fact stands. */
    private static final int FREE = 0, AWAITS = 1, ADMITTED = 2, DENIED = 3, DOUBTED = 4;

    /** What a paper does with a fact. */
    private static final int NOTHING = 0, SAY = 1, SAY_NOT = 2, ADMIT = 3, DENY = 4, DOUBT = 5, TAKE = 6;

    /** What is added to a fault's number, below 0, in an answer. */
    private static final int FAULT_BASE = -10;

    private static final int MISPLACED = 1, BAD_NUMBER = 2;

    /** The faults that only claims have, and those that only papers have. */
    private static final int TOO_DEEP = 3, TOLD_CLAUSE = 3, TOLD_FACT = 4, BARRED_FACT = 5;

    private final Text text = new Text();
    private final ClaimReader claimReader = new ClaimReader();
    private final PaperReader paperReader = new PaperReader();
    private final Suit suit = new Suit();
    private final Facts facts = new Facts();
    private final Facts otherwise = new Facts();
    private final Scale scale = new Scale();
    private final Suit[] images = {new Suit(), new Suit()};
    private final boolean[] kept = new boolean[IMAGES];

    public PleaPapers() {
        facts.replay(suit.papers, NONE);
    }

    // ---- texts

    public int feed(int n, long bytes) {
        if (n < 1 || n > 8) {
            return OUTSIDE;
        }
        if (text.length + n > TEXT_BYTES) {
            return FULL;
        }
        for (int i = n - 1; i >= 0; i--) {
            text.append((int) (bytes >>> (8 * i)) & 255);
        }
        return text.length;
    }

    public int claim() {
        if (text.length > CLAIM_BYTES) {
            return NOT;
        }
        if (suit.claims.number >= CLAIMS) {
            return FULL;
        }
        claimReader.read(text);
        text.length = 0;
        if (!text.isSound()) {
            return FAULT_BASE - text.faultNumber;
        }
        return suit.claims.add(claimReader);
    }

    public int paper(int day) {
        Papers papers = suit.papers;
        if (day < 0 || day > LAST_DAY) {
            return OUTSIDE;
        }
        if (day < papers.lastDay()) {
            return NOT;
        }
        if (papers.number >= PAPERS) {
            return FULL;
        }
        paperReader.read(text, facts, papers.number % SIDES);
        text.length = 0;
        if (!text.isSound()) {
            return FAULT_BASE - text.faultNumber;
        }
        int added = papers.add(day, suit.dueDays, paperReader.acts);
        facts.replay(papers, NONE);
        return added;
    }

    public int fault() {
        return text.faultPlace;
    }

    public int due(int v) {
        if (v < 1 || v > MOST_DUE) {
            return OUTSIDE;
        }
        int was = suit.dueDays;
        suit.dueDays = v;
        return was;
    }

    public int count(int what) {
        switch (what) {
            case 0: return suit.claims.number;
            case 1: return suit.papers.number;
            case 2: return suit.proofs.number;
            case 3: return text.length;
            case 4: return facts.howMany(FREE);
            case 5: return facts.howMany(AWAITS);
            case 6: return facts.howMany(ADMITTED);
            case 7: return facts.howMany(DENIED);
            case 8: return facts.howMany(DOUBTED);
            default: return OUTSIDE;
        }
    }

    public int fact(int f, int what) {
        if (!isFact(f)) {
            return UNKNOWN;
        }
        switch (what) {
            case 0: return facts.stand[f];
            case 1: return facts.word[f];
            case 2: return facts.sayer[f];
            case 3: return facts.saidIn[f];
            case 4: return facts.answeredIn[f];
            default: return OUTSIDE;
        }
    }

    public int told(int c, int what) {
        if (!isClaim(c)) {
            return UNKNOWN;
        }
        switch (what) {
            case 0: return suit.claims.coins[c];
            case 1: return suit.claims.factSets[c];
            case 2: return sureness(c);
            default: return OUTSIDE;
        }
    }

    public int heard(int p, int what) {
        if (!isPaper(p)) {
            return UNKNOWN;
        }
        switch (what) {
            case 0: return suit.papers.days[p];
            case 1: return has(suit.papers.late, p) ? 1 : 0;
            case 2: return suit.papers.factSet(p);
            case 3: return facts.silent[p];
            default: return OUTSIDE;
        }
    }

    public int strike() {
        if (suit.papers.number < 1) {
            return NOT;
        }
        suit.papers.number--;
        facts.replay(suit.papers, NONE);
        return suit.papers.number;
    }

    // ---- what holds

    public int open() {
        return facts.open;
    }

    public int holds(int c, int set) {
        if (!isClaim(c) || (set & ~facts.open) != 0) {
            return UNKNOWN;
        }
        return suit.claims.isOwed(c, facts.soBy(set)) ? 1 : 0;
    }

    public int turns(int c) {
        if (!isClaim(c)) {
            return UNKNOWN;
        }
        int set = 0;
        for (int f = 0; f < FACTS; f++) {
            if (has(facts.open, f) && turnsOn(c, f)) {
                set |= 1 << f;
            }
        }
        return set;
    }

    public int enough(int c) {
        if (!isClaim(c)) {
            return UNKNOWN;
        }
        int open = facts.open;
        if (Integer.bitCount(open) > ENOUGH_FACTS) {
            return NOT;
        }
        int fewest = NONE;
        int sets = setsWithin(open);
        for (int i = 0, set = 0; i < sets; i++, set = nextSet(set, open)) {
            if (isFewer(set, fewest) && isEnough(c, set)) {
                fewest = set;
            }
        }
        return fewest;
    }

    public int silence(int c, int side) {
        if (!isClaim(c) || !isSide(side)) {
            return UNKNOWN;
        }
        int sure = sureness(c);
        if (sure == NONE) {
            return NOT;
        }
        int admitted = facts.admittedBy(side);
        int fewest = NONE;
        int sets = setsWithin(admitted);
        for (int i = 0, set = 0; i < sets; i++, set = nextSet(set, admitted)) {
            if (isFewer(set, fewest) && changesIfTurned(c, set, sure == 1)) {
                fewest = set;
            }
        }
        return fewest;
    }

    // ---- proofs

    public int proof(int side, int f, int odds, int cost) {
        if (!isSide(side) || !isFact(f)) {
            return UNKNOWN;
        }
        if (odds < 0 || odds > MOST_ODDS || cost < 0 || cost > MOST_COST) {
            return OUTSIDE;
        }
        if (suit.proofs.number >= PROOFS) {
            return FULL;
        }
        return suit.proofs.add(side, f, odds, cost);
    }

    public int bring(int k, boolean is) {
        if (!isProof(k)) {
            return UNKNOWN;
        }
        Proofs proofs = suit.proofs;
        int was = has(proofs.brought, k) ? 1 : 0;
        proofs.brought = is ? proofs.brought | (1 << k) : proofs.brought & ~(1 << k);
        return was;
    }

    public int proved(int k, int what) {
        if (!isProof(k)) {
            return UNKNOWN;
        }
        Proofs proofs = suit.proofs;
        switch (what) {
            case 0: return proofs.sides[k];
            case 1: return proofs.factOf[k];
            case 2: return proofs.odds[k];
            case 3: return proofs.costs[k];
            case 4: return has(proofs.brought, k) ? 1 : 0;
            case 5: return facts.bearing(proofs.sides[k], proofs.factOf[k]);
            default: return OUTSIDE;
        }
    }

    public int likely(int f) {
        if (!isFact(f)) {
            return UNKNOWN;
        }
        if (!has(facts.open, f)) {
            return NOT;
        }
        scale.weighFacts(suit.proofs, facts, suit.proofs.brought);
        return scale.shares[f];
    }

    public int chance(int c) {
        if (!isClaim(c)) {
            return UNKNOWN;
        }
        scale.weighClaims(suit, facts, suit.proofs.brought);
        return scale.chances[c];
    }

    public int worth(int side) {
        if (!isSide(side)) {
            return UNKNOWN;
        }
        return gain(side, 0, 0);
    }

    public int best(int side, int m, int what) {
        if (!isSide(side)) {
            return UNKNOWN;
        }
        if (m < 0 || m > MOST_PURSE || what < 0 || what > 2) {
            return OUTSIDE;
        }
        int set = bestSet(side, m);
        switch (what) {
            case 0: return set;
            case 1: return gain(side, set, 0);
            default: return suit.proofs.costOf(set);
        }
    }

    public int game(int side, int what) {
        if (!isSide(side)) {
            return UNKNOWN;
        }
        if (what < 0 || what > 2) {
            return OUTSIDE;
        }
        int lead = leadSet(side);
        if (what == 0) {
            return lead;
        }
        int reply = replySet(1 - side, lead);
        return what == 1 ? reply : gain(side, lead, reply);
    }

    // ---- otherwise, trials

    public int without(int p) {
        if (!isPaper(p)) {
            return UNKNOWN;
        }
        otherwise.replay(suit.papers, p);
        return scale.weighClaims(suit, otherwise, suit.proofs.brought);
    }

    public int seed(int v) {
        if (v < 0) {
            return OUTSIDE;
        }
        int was = suit.seedNumber;
        suit.seedNumber = v;
        return was;
    }

    public int trial() {
        scale.weighFacts(suit.proofs, facts, suit.proofs.brought);
        int shown = 0;
        for (int f = 0; f < FACTS; f++) {
            if (has(facts.open, f) && suit.draw(THOUSAND) < scale.shares[f]) {
                shown |= 1 << f;
            }
        }
        return suit.claims.coinsOwed(facts.soBy(shown));
    }

    // ---- images

    public int keep(int i) {
        if (!isImage(i)) {
            return UNKNOWN;
        }
        images[i].copyFrom(suit);
        kept[i] = true;
        return 1;
    }

    public int goBack(int i) {
        if (!isImage(i)) {
            return UNKNOWN;
        }
        if (!kept[i]) {
            return NOT;
        }
        suit.copyFrom(images[i]);
        facts.replay(suit.papers, NONE);
        return 1;
    }

    // ---- what there is

    private static boolean isSide(int side) {
        return side >= 0 && side < SIDES;
    }

    private static boolean isFact(int f) {
        return f >= 0 && f < FACTS;
    }

    private static boolean isImage(int i) {
        return i >= 0 && i < IMAGES;
    }

    private boolean isClaim(int c) {
        return c >= 0 && c < suit.claims.number;
    }

    private boolean isPaper(int p) {
        return p >= 0 && p < suit.papers.number;
    }

    private boolean isProof(int k) {
        return k >= 0 && k < suit.proofs.number;
    }

    // ---- sets

    private static boolean has(int set, int k) {
        return ((set >> k) & 1) != 0;
    }

    private static int setsWithin(int whole) {
        return 1 << Integer.bitCount(whole);
    }

    /** The next greater set within the whole; behind the whole itself comes the empty one. */
    private static int nextSet(int set, int whole) {
        return (set - whole) & whole;
    }

    /** Sets are looked through from the least on, so that one of as many is never better than the one found before. */
    private static boolean isFewer(int set, int found) {
        return found == NONE || Integer.bitCount(set) < Integer.bitCount(found);
    }

    // ---- how claims stand

    /** 1: sure, 0: lost, else NONE. */
    private int sureness(int c) {
        int open = facts.open;
        int ways = setsWithin(open);
        int held = 0;
        for (int i = 0, shown = 0; i < ways; i++, shown = nextSet(shown, open)) {
            if (suit.claims.isOwed(c, facts.soBy(shown))) {
                held++;
            }
        }
        if (held == ways) {
            return 1;
        }
        return held == 0 ? 0 : NONE;
    }

    private boolean turnsOn(int c, int f) {
        int others = facts.open & ~(1 << f);
        int ways = setsWithin(others);
        for (int i = 0, shown = 0; i < ways; i++, shown = nextSet(shown, others)) {
            boolean with = suit.claims.isOwed(c, facts.soBy(shown | (1 << f)));
            if (with != suit.claims.isOwed(c, facts.soBy(shown))) {
                return true;
            }
        }
        return false;
    }

    private boolean isEnough(int c, int set) {
        int others = facts.open & ~set;
        int ways = setsWithin(others);
        for (int i = 0, shown = 0; i < ways; i++, shown = nextSet(shown, others)) {
            if (!suit.claims.isOwed(c, facts.soBy(shown | set))) {
                return false;
            }
        }
        return true;
    }

    /**
     * Of a smallest set of facts, had they been denied, each must be the other way where the claim changes: so it is
     * enough to look where all of them are.
     */
    private boolean changesIfTurned(int c, int set, boolean held) {
        int open = facts.open;
        int ways = setsWithin(open);
        for (int i = 0, shown = 0; i < ways; i++, shown = nextSet(shown, open)) {
            if (suit.claims.isOwed(c, facts.soBy(shown) ^ set) != held) {
                return true;
            }
        }
        return false;
    }

    // ---- which proofs to bring

    /** Worth to a side less what its set costs, if its set and the other side's are brought too. */
    private int gain(int side, int set, int otherSet) {
        int worth = scale.weighClaims(suit, facts, suit.proofs.brought | set | otherSet);
        return (side == 0 ? worth : -worth) - THOUSAND * suit.proofs.costOf(set);
    }

    private int bestSet(int side, int m) {
        int choice = suit.proofs.notBrought(side, BEST_PROOFS);
        int sets = setsWithin(choice);
        int bestSet = 0;
        int bestCost = 0;
        int bestGain = gain(side, 0, 0);
        for (int i = 1, set = nextSet(0, choice); i < sets; i++, set = nextSet(set, choice)) {
            int cost = suit.proofs.costOf(set);
            if (cost > m) {
                continue;
            }
            int gain = gain(side, set, 0);
            if (gain > bestGain || (gain == bestGain && cost < bestCost)) {
                bestSet = set;
                bestCost = cost;
                bestGain = gain;
            }
        }
        return bestSet;
    }

    private int leadSet(int side) {
        int choice = suit.proofs.notBrought(side, GAME_PROOFS);
        int sets = setsWithin(choice);
        int bestSet = 0;
        int bestGain = gain(side, 0, replySet(1 - side, 0));
        for (int i = 1, set = nextSet(0, choice); i < sets; i++, set = nextSet(set, choice)) {
            int gain = gain(side, set, replySet(1 - side, set));
            if (gain > bestGain) {
                bestSet = set;
                bestGain = gain;
            }
        }
        return bestSet;
    }

    private int replySet(int side, int lead) {
        int choice = suit.proofs.notBrought(side, GAME_PROOFS);
        int sets = setsWithin(choice);
        int bestSet = 0;
        int bestGain = gain(side, 0, lead);
        for (int i = 1, set = nextSet(0, choice); i < sets; i++, set = nextSet(set, choice)) {
            int gain = gain(side, set, lead);
            if (gain > bestGain) {
                bestSet = set;
                bestGain = gain;
            }
        }
        return bestSet;
    }

    /** The text, read token by token, and the first fault that was found in it. */
    private static final class Text {
        private static final int END = 0, WORD = 1, NUMBER = 2, SIGN = 3;
        private static final int MOST_FIGURES = 3;

        private final int[] bytes = new int[TEXT_BYTES];
        private int length;
        private int kind;
        private int start;
        private int end;
        private int faultNumber;
        private int faultPlace = NONE;

        private void append(int value) {
            if (length < bytes.length) {
                bytes[length] = value;
                length++;
            }
        }

        private void begin() {
            faultNumber = 0;
            faultPlace = NONE;
            end = 0;
            next();
        }

        private void next() {
            start = end;
            while (start < length && bytes[start] == ' ') {
                start++;
            }
            end = start;
            if (start >= length) {
                kind = END;
            } else if (isLetterAt(start)) {
                kind = WORD;
                while (end < length && isLetterAt(end)) {
                    end++;
                }
            } else if (isFigureAt(start)) {
                kind = NUMBER;
                while (end < length && isFigureAt(end)) {
                    end++;
                }
            } else {
                kind = SIGN;
                end++;
            }
        }

        private boolean isLetterAt(int i) {
            return bytes[i] >= 'a' && bytes[i] <= 'z';
        }

        private boolean isFigureAt(int i) {
            return bytes[i] >= '0' && bytes[i] <= '9';
        }

        private boolean isSound() {
            return faultNumber == 0;
        }

        private boolean isAtEnd() {
            return kind == END;
        }

        /** Only the first fault counts: reading goes forward, so it is the one at the first byte. */
        private void fail(int number) {
            if (faultNumber == 0) {
                faultNumber = number;
                faultPlace = start;
            }
        }

        private boolean isWord(String word) {
            if (kind != WORD || end - start != word.length()) {
                return false;
            }
            for (int i = 0; i < word.length(); i++) {
                if (bytes[start + i] != word.charAt(i)) {
                    return false;
                }
            }
            return true;
        }

        private boolean isSign(char sign) {
            return kind == SIGN && bytes[start] == sign;
        }

        private boolean takesWord(String word) {
            boolean takes = isSound() && isWord(word);
            if (takes) {
                next();
            }
            return takes;
        }

        private boolean takesSign(char sign) {
            boolean takes = isSound() && isSign(sign);
            if (takes) {
                next();
            }
            return takes;
        }

        /** The number that stands here, and stays; NONE with a fault. */
        private int numberHere(int least, int most) {
            if (kind != NUMBER) {
                fail(MISPLACED);
                return NONE;
            }
            int value = 0;
            for (int i = start; i < end && i < start + MOST_FIGURES; i++) {
                value = value * 10 + bytes[i] - '0';
            }
            if (end - start > MOST_FIGURES || value < least || value > most) {
                fail(BAD_NUMBER);
                return NONE;
            }
            return value;
        }
    }

    /** Reads a claim into code in which what is joined comes ahead of what joins it. */
    private static final class ClaimReader {
        private static final int CODE_NOT = FACTS, CODE_AND = FACTS + 1, CODE_OR = FACTS + 2;

        /** In the 64 ways of facts 0 to 5, side by side, those in which one of them is so. */
        private static final long[] LOW_FACTS = {
            0xAAAAAAAAAAAAAAAAL, 0xCCCCCCCCCCCCCCCCL, 0xF0F0F0F0F0F0F0F0L,
            0xFF00FF00FF00FF00L, 0xFFFF0000FFFF0000L, 0xFFFFFFFF00000000L
        };

        private final int[] code = new int[CLAIM_BYTES];
        private final long[] stack = new long[CLAIM_BYTES];
        private int size;
        private int coins;
        private int factSet;

        private void read(Text text) {
            size = 0;
            factSet = 0;
            text.begin();
            boolean owes = text.takesWord("owe");
            if (!owes && !text.takesWord("pay")) {
                text.fail(MISPLACED);
                return;
            }
            int amount = text.numberHere(1, MOST_COINS);
            if (!text.isSound()) {
                return;
            }
            coins = owes ? -amount : amount;
            text.next();
            if (!text.takesWord("if")) {
                text.fail(MISPLACED);
                return;
            }
            readAny(this, text, 0);
            if (!text.isAtEnd()) {
                text.fail(MISPLACED);
            }
        }

        private static void readAny(ClaimReader reader, Text text, int depth) {
            readAll(reader, text, depth);
            for (int n = 0; n < CLAIM_BYTES && text.takesWord("or"); n++) {
                readAll(reader, text, depth);
                reader.emit(CODE_OR);
            }
        }

        private static void readAll(ClaimReader reader, Text text, int depth) {
            readOne(reader, text, depth);
            for (int n = 0; n < CLAIM_BYTES && text.takesWord("and"); n++) {
                readOne(reader, text, depth);
                reader.emit(CODE_AND);
            }
        }

        private static void readOne(ClaimReader reader, Text text, int depth) {
            boolean isNot = text.isWord("not");
            if (!isNot && !text.isSign('(')) {
                reader.readFact(text);
                return;
            }
            if (depth >= DEEPEST) {
                text.fail(TOO_DEEP);
                return;
            }
            text.next();
            if (isNot) {
                readOne(reader, text, depth + 1);
                reader.emit(CODE_NOT);
                return;
            }
            readAny(reader, text, depth + 1);
            if (!text.takesSign(')')) {
                text.fail(MISPLACED);
            }
        }

        private void readFact(Text text) {
            int f = text.numberHere(0, FACTS - 1);
            if (text.isSound() && f >= 0) {
                factSet |= 1 << f;
                emit(f);
                text.next();
            }
        }

        private void emit(int op) {
            if (size < code.length) {
                code[size] = op;
                size++;
            }
        }

        /** Bit k of word w: whether it is owed if just the facts in the set 64 w + k are so. */
        private void fillTable(long[] table) {
            for (int w = 0; w < table.length; w++) {
                table[w] = wordOf(w);
            }
        }

        private long wordOf(int w) {
            int top = 0;
            for (int i = 0; i < size; i++) {
                int op = code[i];
                if (op < FACTS) {
                    if (top < stack.length) {
                        stack[top] = factWord(op, w);
                        top++;
                    }
                } else if (op == CODE_NOT) {
                    if (top >= 1) {
                        stack[top - 1] = ~stack[top - 1];
                    }
                } else if (top >= 2) {
                    top--;
                    long left = stack[top - 1];
                    stack[top - 1] = op == CODE_AND ? left & stack[top] : left | stack[top];
                }
            }
            return stack[0];
        }

        private static long factWord(int f, int w) {
            if (f >= 0 && f < LOW_FACTS.length) {
                return LOW_FACTS[f];
            }
            return has(w, f - LOW_FACTS.length) ? -1L : 0L;
        }
    }

    /** Reads a paper: what it does with each fact. */
    private static final class PaperReader {
        private final int[] acts = new int[FACTS];
        private int toldKinds;

        private void read(Text text, Facts facts, int side) {
            toldKinds = 0;
            for (int f = 0; f < FACTS; f++) {
                acts[f] = NOTHING;
            }
            text.begin();
            for (int n = 0; n < TEXT_BYTES && text.isSound() && !text.isAtEnd(); n++) {
                readClause(text, facts, side);
            }
        }

        private void readClause(Text text, Facts facts, int side) {
            int kind = kindHere(text);
            if (kind == NOTHING) {
                text.fail(MISPLACED);
                return;
            }
            if (has(toldKinds, kind)) {
                text.fail(TOLD_CLAUSE);
                return;
            }
            toldKinds |= 1 << kind;
            text.next();
            readItem(text, facts, side, kind);
            for (int n = 0; n < TEXT_BYTES && text.takesSign(','); n++) {
                readItem(text, facts, side, kind);
            }
            if (!text.takesSign(';')) {
                text.fail(MISPLACED);
            }
        }

        private static int kindHere(Text text) {
            if (text.isWord("say")) {
                return SAY;
            }
            if (text.isWord("admit")) {
                return ADMIT;
            }
            if (text.isWord("deny")) {
                return DENY;
            }
            if (text.isWord("doubt")) {
                return DOUBT;
            }
            return text.isWord("take") ? TAKE : NOTHING;
        }

        private void readItem(Text text, Facts facts, int side, int kind) {
            int act = kind == SAY && text.takesWord("not") ? SAY_NOT : kind;
            int f = text.numberHere(0, FACTS - 1);
            if (!text.isSound() || !isFact(f)) {
                return;
            }
            if (acts[f] != NOTHING) {
                text.fail(TOLD_FACT);
            } else if (!facts.allow(f, act, side)) {
                text.fail(BARRED_FACT);
            } else {
                acts[f] = act;
                text.next();
            }
        }
    }

    /** The claims, each with all ways in which it is owed. */
    private static final class Claims {
        private static final int WORDS = 1 << (FACTS - 6);

        private int number;
        private final int[] coins = new int[CLAIMS];
        private final int[] factSets = new int[CLAIMS];
        private final long[][] tables = new long[CLAIMS][WORDS];

        private int add(ClaimReader reader) {
            if (number >= CLAIMS) {
                return FULL;
            }
            coins[number] = reader.coins;
            factSets[number] = reader.factSet;
            reader.fillTable(tables[number]);
            number++;
            return number - 1;
        }

        /** Whether a claim is owed if just the facts of the set are so. */
        private boolean isOwed(int c, int so) {
            return ((tables[c][(so >> 6) & (WORDS - 1)] >>> (so & 63)) & 1L) != 0;
        }

        private int coinsOwed(int so) {
            int sum = 0;
            for (int c = 0; c < number; c++) {
                if (isOwed(c, so)) {
                    sum += coins[c];
                }
            }
            return sum;
        }

        private void copyFrom(Claims from) {
            number = from.number;
            System.arraycopy(from.coins, 0, coins, 0, CLAIMS);
            System.arraycopy(from.factSets, 0, factSets, 0, CLAIMS);
            for (int c = 0; c < CLAIMS; c++) {
                System.arraycopy(from.tables[c], 0, tables[c], 0, WORDS);
            }
        }
    }

    /** The papers: what each does with each fact. */
    private static final class Papers {
        private int number;
        private int late;
        private final int[] days = new int[PAPERS];
        private final int[][] acts = new int[PAPERS][FACTS];

        private int lastDay() {
            return number > 0 && number <= PAPERS ? days[number - 1] : 0;
        }

        private int add(int day, int dueDays, int[] newActs) {
            if (number >= PAPERS) {
                return FULL;
            }
            boolean isLate = number > 0 && day - lastDay() > dueDays;
            late = isLate ? late | (1 << number) : late & ~(1 << number);
            days[number] = day;
            System.arraycopy(newActs, 0, acts[number], 0, FACTS);
            number++;
            return number - 1;
        }

        private int factSet(int p) {
            int set = 0;
            for (int f = 0; f < FACTS; f++) {
                if (acts[p][f] != NOTHING) {
                    set |= 1 << f;
                }
            }
            return set;
        }

        private void copyFrom(Papers from) {
            number = from.number;
            late = from.late;
            System.arraycopy(from.days, 0, days, 0, PAPERS);
            for (int p = 0; p < PAPERS; p++) {
                System.arraycopy(from.acts[p], 0, acts[p], 0, FACTS);
            }
        }
    }

    /** The proofs. */
    private static final class Proofs {
        private int number;
        private int brought;
        private final int[] sides = new int[PROOFS];
        private final int[] factOf = new int[PROOFS];
        private final int[] odds = new int[PROOFS];
        private final int[] costs = new int[PROOFS];

        private int add(int side, int f, int odd, int cost) {
            if (number >= PROOFS) {
                return FULL;
            }
            sides[number] = side;
            factOf[number] = f;
            odds[number] = odd;
            costs[number] = cost;
            number++;
            return number - 1;
        }

        /** The first ones of a side that are not brought, so many at most. */
        private int notBrought(int side, int most) {
            int set = 0;
            int found = 0;
            for (int k = 0; k < number && found < most; k++) {
                if (sides[k] == side && !has(brought, k)) {
                    set |= 1 << k;
                    found++;
                }
            }
            return set;
        }

        private int costOf(int set) {
            int sum = 0;
            for (int k = 0; k < number; k++) {
                if (has(set, k)) {
                    sum += costs[k];
                }
            }
            return sum;
        }

        private void copyFrom(Proofs from) {
            number = from.number;
            brought = from.brought;
            System.arraycopy(from.sides, 0, sides, 0, PROOFS);
            System.arraycopy(from.factOf, 0, factOf, 0, PROOFS);
            System.arraycopy(from.odds, 0, odds, 0, PROOFS);
            System.arraycopy(from.costs, 0, costs, 0, PROOFS);
        }
    }

    /** All that images keep. How facts stand is not here: it follows from the papers. */
    private static final class Suit {
        /** What is left over by 2 to the 31. */
        private static final long SEED_BITS = 0x7FFFFFFFL;

        private final Claims claims = new Claims();
        private final Papers papers = new Papers();
        private final Proofs proofs = new Proofs();
        private int dueDays = FIRST_DUE;
        private int seedNumber;

        private int draw(int n) {
            seedNumber = (int) ((seedNumber * 1103515245L + 12345L) & SEED_BITS);
            return n < 1 ? 0 : seedNumber / 65536 % n;
        }

        private void copyFrom(Suit from) {
            claims.copyFrom(from.claims);
            papers.copyFrom(from.papers);
            proofs.copyFrom(from.proofs);
            dueDays = from.dueDays;
            seedNumber = from.seedNumber;
        }
    }

    /** How facts stand behind papers. */
    private static final class Facts {
        private final int[] stand = new int[FACTS];
        private final int[] word = new int[FACTS];
        private final int[] sayer = new int[FACTS];
        private final int[] saidIn = new int[FACTS];
        private final int[] answeredIn = new int[FACTS];
        private final int[] silent = new int[PAPERS];
        private int open;
        private int openAsNot;
        private int admittedAsSo;

        /** Hears all papers from the first on; one more, if told, as if it were late. */
        private void replay(Papers papers, int lateToo) {
            for (int f = 0; f < FACTS; f++) {
                free(f);
            }
            for (int p = 0; p < papers.number && p < PAPERS; p++) {
                if (!has(papers.late, p) && p != lateToo) {
                    hear(papers.acts[p], p);
                }
                silent[p] = admitSilently(p);
            }
            sumUp();
        }

        private void free(int f) {
            stand[f] = FREE;
            word[f] = NONE;
            sayer[f] = NONE;
            saidIn[f] = NONE;
            answeredIn[f] = NONE;
        }

        private void hear(int[] acts, int p) {
            for (int f = 0; f < FACTS && f < acts.length; f++) {
                if (acts[f] != NOTHING && allow(f, acts[f], p % SIDES)) {
                    apply(f, acts[f], p);
                }
            }
        }

        private boolean allow(int f, int act, int side) {
            switch (act) {
                case SAY:
                case SAY_NOT:
                    return stand[f] == FREE;
                case TAKE:
                    return stand[f] != FREE && stand[f] != ADMITTED && sayer[f] == side;
                default:
                    return awaitsAnswerOf(f, side);
            }
        }

        private boolean awaitsAnswerOf(int f, int side) {
            return stand[f] == AWAITS && sayer[f] == 1 - side;
        }

        private void apply(int f, int act, int p) {
            switch (act) {
                case SAY:
                case SAY_NOT:
                    stand[f] = AWAITS;
                    word[f] = act == SAY ? 1 : 0;
                    sayer[f] = p % SIDES;
                    saidIn[f] = p;
                    break;
                case TAKE:
                    free(f);
                    break;
                case ADMIT:
                    answer(f, ADMITTED, p);
                    break;
                case DENY:
                    answer(f, DENIED, p);
                    break;
                default:
                    answer(f, DOUBTED, p);
            }
        }

        private void answer(int f, int newStand, int p) {
            stand[f] = newStand;
            answeredIn[f] = p;
        }

        private int admitSilently(int p) {
            int set = 0;
            for (int f = 0; f < FACTS; f++) {
                if (awaitsAnswerOf(f, p % SIDES)) {
                    answer(f, ADMITTED, p);
                    set |= 1 << f;
                }
            }
            return set;
        }

        private void sumUp() {
            open = 0;
            openAsNot = 0;
            admittedAsSo = 0;
            for (int f = 0; f < FACTS; f++) {
                if (stand[f] == ADMITTED) {
                    admittedAsSo |= word[f] == 1 ? 1 << f : 0;
                } else if (stand[f] != FREE) {
                    open |= 1 << f;
                    openAsNot |= word[f] == 0 ? 1 << f : 0;
                }
            }
        }

        /** The facts that are so, if these open ones are shown. */
        private int soBy(int shown) {
            return admittedAsSo | (shown ^ openAsNot);
        }

        private int howMany(int what) {
            int sum = 0;
            for (int f = 0; f < FACTS; f++) {
                if (stand[f] == what) {
                    sum++;
                }
            }
            return sum;
        }

        private int admittedBy(int side) {
            int set = 0;
            for (int f = 0; f < FACTS; f++) {
                if (stand[f] == ADMITTED && sayer[f] == 1 - side) {
                    set |= 1 << f;
                }
            }
            return set;
        }

        /** Of a side's proof of a fact: 1 for it, 0 against it, NONE if it counts for nothing. */
        private int bearing(int side, int f) {
            if (f < 0 || f >= FACTS || stand[f] == FREE || stand[f] == ADMITTED) {
                return NONE;
            }
            if (sayer[f] == side) {
                return 1;
            }
            return stand[f] == DOUBTED ? NONE : 0;
        }
    }

    /** Weighs facts by the proofs that are brought, and claims by the facts. */
    private static final class Scale {
        private final int[] shares = new int[FACTS];
        private final int[] chances = new int[CLAIMS];

        /** How likely each open fact is. */
        private void weighFacts(Proofs proofs, Facts facts, int brought) {
            for (int f = 0; f < FACTS; f++) {
                shares[f] = THOUSAND;
            }
            cutBy(proofs, facts, brought, 1);
            for (int f = 0; f < FACTS; f++) {
                shares[f] = THOUSAND - shares[f];
            }
            cutBy(proofs, facts, brought, 0);
        }

        private void cutBy(Proofs proofs, Facts facts, int brought, int bearing) {
            for (int k = 0; k < proofs.number && k < PROOFS; k++) {
                int f = proofs.factOf[k];
                if (has(brought, k) && isFact(f) && facts.bearing(proofs.sides[k], f) == bearing) {
                    shares[f] = shares[f] * (THOUSAND - proofs.odds[k]) / THOUSAND;
                }
            }
        }

        /** How likely each claim is; worth to side 0. */
        private int weighClaims(Suit suit, Facts facts, int brought) {
            weighFacts(suit.proofs, facts, brought);
            for (int c = 0; c < CLAIMS; c++) {
                chances[c] = 0;
            }
            spread(this, suit.claims, facts, 0, 0, MILLION);
            int worth = 0;
            for (int c = 0; c < suit.claims.number && c < CLAIMS; c++) {
                worth += suit.claims.coins[c] * chances[c] / THOUSAND;
            }
            return worth;
        }

        /** Shares a weight out among the ways from a fact on; ways without any weight are not gone. */
        private static void spread(Scale scale, Claims claims, Facts facts, int from, int shown, int weight) {
            int f = from;
            while (f < FACTS && !has(facts.open, f)) {
                f++;
            }
            if (f >= FACTS) {
                int so = facts.soBy(shown);
                for (int c = 0; c < claims.number && c < CLAIMS; c++) {
                    scale.chances[c] += claims.isOwed(c, so) ? weight : 0;
                }
                return;
            }
            int with = weight * scale.shares[f] / THOUSAND;
            int without = weight * (THOUSAND - scale.shares[f]) / THOUSAND;
            if (with > 0) {
                spread(scale, claims, facts, f + 1, shown | (1 << f), with);
            }
            if (without > 0) {
                spread(scale, claims, facts, f + 1, shown, without);
            }
        }
    }
}
