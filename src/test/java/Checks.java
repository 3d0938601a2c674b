/** What the tests share: checks that are counted, the refusals by their numbers, and texts told for short. */
abstract class Checks {
    static final int NONE = -1, UNKNOWN = -100000001, OUTSIDE = -100000002, NOT = -100000003, FULL = -100000004;
    private static int wrong = 0;
    private static int checks = 0;
    private static String about = "";

    /** What of the document the checks that follow are about. */
    static void about(String sentence) {
        about = sentence;
    }

    static void is(String call, int got, int want) {
        checks++;
        if (got != want) {
            wrong++;
            System.out.println(about + ": " + call + " answered " + got + ", due is " + want);
        }
    }

    static void is(String what, String got, String want) {
        checks++;
        if (!got.equals(want)) {
            wrong++;
            System.out.println(about + ": " + what + " is " + got + ", due is " + want);
        }
    }

    static void end() {
        System.out.println(checks - wrong + " checks as due, " + wrong + " not");
        if (wrong != 0 || checks == 0) System.exit(1);
    }

    // ---- texts for short

    /** Eight bytes a call, so that tests stay far below an object's 512 calls. */
    static void tell(PleaPapers x, String text) {
        for (int i = 0; i < text.length(); i += 8) {
            String part = text.substring(i, Math.min(i + 8, text.length()));
            x.feed(part.length(), bytes(part));
        }
    }

    static long bytes(String part) {
        long bytes = 0;
        for (int i = 0; i < part.length(); i++) bytes = bytes << 8 | part.charAt(i);
        return bytes;
    }

    static int claim(PleaPapers x, String text) {
        tell(x, text);
        return x.claim();
    }

    static int paper(PleaPapers x, int day, String text) {
        tell(x, text);
        return x.paper(day);
    }

    static String times(String part, int n) {
        return part.repeat(n);
    }

    /** A text with blanks behind it, so many bytes long. */
    static String filled(String text, int length) {
        return text + times(" ", length - text.length());
    }

    /** Facts of a set, with commas between. */
    static String items(int set) {
        StringBuilder s = new StringBuilder();
        for (int f = 0; f < 12; f++) {
            if ((set >> f & 1) == 1) s.append(s.length() == 0 ? "" : ",").append(f);
        }
        return s.toString();
    }

    // ---- what is due of a text

    static void isClaim(String text, int coins, int facts) {
        PleaPapers x = new PleaPapers();
        is("claim of '" + text + "'", claim(x, text), 0);
        is("fault of '" + text + "'", x.fault(), NONE);
        is("coins of '" + text + "'", x.told(0, 0), coins);
        is("facts of '" + text + "'", x.told(0, 1), facts);
    }

    static void isClaimFault(String text, int number, int place) {
        PleaPapers x = new PleaPapers();
        is("claim of '" + text + "'", claim(x, text), -10 - number);
        is("fault of '" + text + "'", x.fault(), place);
        is("claims behind '" + text + "'", x.count(0), 0);
        is("bytes behind '" + text + "'", x.count(3), 0);
    }

    static void isPaperFault(PleaPapers x, int day, String text, int number, int place) {
        int papers = x.count(1);
        is("paper of '" + text + "'", paper(x, day, text), -10 - number);
        is("fault of '" + text + "'", x.fault(), place);
        is("papers behind '" + text + "'", x.count(1), papers);
        is("bytes behind '" + text + "'", x.count(3), 0);
    }

    // ---- suits for short

    /** A suit of three claims and three papers, in which facts stand in all ways. */
    static PleaPapers sample() {
        PleaPapers x = new PleaPapers();
        claim(x, "pay 100 if 0 and 1 and not 2");
        claim(x, "owe 40 if 3 or (4 and not 0)");
        claim(x, "pay 7 if 5");
        paper(x, 0, "say 0,1,not 6,5;");
        paper(x, 10, "deny 0;doubt 1;say 2,3;");
        paper(x, 25, "deny 2;say 4;");
        return x;
    }

    /** Three facts that side 0 said and side 1 denied, each worth so many coins. */
    static PleaPapers threeFacts(int a, int b, int c) {
        PleaPapers x = new PleaPapers();
        claim(x, "pay " + a + " if 0");
        claim(x, "pay " + b + " if 1");
        claim(x, "pay " + c + " if 2");
        paper(x, 0, "say 0,1,2;");
        paper(x, 0, "deny 0,1,2;");
        return x;
    }
}
