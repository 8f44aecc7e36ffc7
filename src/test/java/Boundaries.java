import java.util.ArrayList;
import java.util.List;

/**
 * Tests of the document's sentences, one after the other: says() quotes one (or a half of one) that names a boundary
 * case, and each due() behind it would fail if that sentence were broken. All answers are worked out by hand.
 */
abstract class Boundaries {
    static final int LOW = Integer.MIN_VALUE;
    static final int HIGH = Integer.MAX_VALUE;
    /** Each of ten SAYINGS has two choices that never quarrel: 2 + 4 + .. + 1024 TRIES are too many. */
    static final String SPENT = "who p;place a;place b;way a b 0;time x of p in a;time y of p in b;ask k:x at 0 5;"
        + times("say s#:x at 0 9 or x at 0 8;", 10);
    /** Two WAYS: x in the inn is a bell's stroke (600) less 60 .. 30 or 10 .. 50 behind it; y in the mill, 20 minutes off, is about it. */
    static final String TWO = "who ann;place inn;place mill;way inn mill 20;time x of ann in inn;time y of ann in mill;time bell;"
        + "sure rang:bell at 600 600;say a trust 7:x behind bell -60 -30 or x behind bell 10 50;say b:y at 590 610;"
        + "ask q:x at 0 600;ask r:y behind bell 0 1440;";

    /** One PERSON, ten TIMES in six PLACES that stand in a row, so 45 less 4 MOVES; the hours fall by ten. */
    static final String MOST_MOVES = mostMoves();

    /** The words of a promise; those of the Terms have number 0. */
    record Quote(int promise, String words) {
        @Override
        public String toString() {
            return (promise == 0 ? "Terms" : "promise " + promise) + ", \"" + words + "\"";
        }
    }

    final List<Quote> quotes = new ArrayList<>();
    int checks = 0;
    int wrong = 0;
    private int checksAhead = 0;
    private Quote sentence = null;

    abstract void run();

    /** The sentence that the checks from here on are for. */
    final void says(int promise, String words) {
        close();
        sentence = new Quote(promise, words);
        quotes.add(sentence);
        checksAhead = checks;
    }

    /** A sentence without a check of its own is an oversight. */
    final void close() {
        if (sentence != null && checks == checksAhead) {
            wrong++;
            System.out.println("nothing is checked of " + sentence);
        }
    }

    final void due(String call, long got, long want) {
        checks++;
        if (got != want) {
            wrong++;
            System.out.println(sentence + ": " + call + " answered " + got + ", due is " + want);
        }
    }

    final void due(String call, boolean got, boolean want) {
        due(call, got ? 1 : 0, want ? 1 : 0);
    }

    /** A new object that is told a text without a FAULT. */
    final NightHours told(String text) {
        NightHours n = new NightHours();
        tell(n, text);
        return n;
    }

    final void tell(NightHours n, String text) {
        int fault = Tape.read(n, text);
        if (fault != 0) {
            due("read() of \"" + text + "\", place " + n.place(), fault, 0);
        }
    }

    final void fine(String text) {
        due("read() of \"" + text + "\"", Tape.read(new NightHours(), text), 0);
    }

    final void fault(String text, int fault, int place) {
        faultOver(new NightHours(), text, fault, place);
    }

    final void faultOver(NightHours n, String text, int fault, int place) {
        due("read() of \"" + text + "\"", Tape.read(n, text), fault);
        due("place() of \"" + text + "\"", n.place(), place);
    }

    /** The FAULT stands where the text has the mark #, which is no part of it. */
    final void faultAtMark(String marked, int fault) {
        fault(marked.replace("#", ""), fault, marked.indexOf('#'));
    }

    /** The part so many times, its signs # in turn a, b, c .. */
    static String times(String part, int n) {
        StringBuilder b = new StringBuilder();
        for (int i = 0; i < n; i++) {
            b.append(part.replace('#', (char) ('a' + i)));
        }
        return b.toString();
    }

    /** SAYINGS by that word, each with so many choices that mean the same, x at 0 9. */
    static String alike(String word, String names, int... choices) {
        StringBuilder b = new StringBuilder();
        for (int i = 0; i < choices.length; i++) {
            b.append(word).append(' ').append(names).append((char) ('a' + i)).append(":x at 0 9");
            b.append(" or x at 0 9".repeat(choices[i] - 1)).append(';');
        }
        return b.toString();
    }

    /** No numbers of anything of which there are n: below 0, from n on, and those that a shift or a row's length would wrap. */
    static int[] noSuch(int n) {
        return new int[] {-1, -2, -32, -100, LOW, LOW + 1, n, n + 1, n + 6, n + 10, n + 32, n + 64, n + 100, n + 1000, HIGH - 1, HIGH};
    }

    static int[] noMinute() {
        return new int[] {-1, -2, -1440, LOW, 1441, 1442, 2881, HIGH};
    }

    private static String mostMoves() {
        StringBuilder b = new StringBuilder("who p;" + times("place q#;", 6) + "way qa qb 1;way qb qc 1;way qc qd 1;way qd qe 1;way qe qf 1;");
        for (int i = 0; i < 10; i++) {
            b.append("time t").append((char) ('a' + i)).append(" of p in q").append((char) ('a' + i % 6)).append(';');
        }
        for (int i = 0; i < 10; i++) {
            int minute = 100 - 10 * i;
            b.append("say s").append((char) ('a' + i)).append(":t").append((char) ('a' + i)).append(" at " + minute + " " + minute + ";");
        }
        return b.toString();
    }
}
