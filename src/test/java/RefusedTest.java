import java.util.ArrayList;
import java.util.List;
import java.util.Random;

/**
 * Promise 4: a text with a FAULT changes nothing. An object that has refused a text must answer as if it had never been
 * fed, and the text that it reads next must be told as to a new object.
 * With two numbers as arguments: the first seed and how many.
 */
public final class RefusedTest {
    /** One of each TELL and of each place where a '-' may stand, so that a cut or a wrong INT can be anywhere. */
    private static final String WHOLE =
        "who p;place a;place b;way a b 7;time x of p in a;time y of p in b;time z;"
        + "say s trust 9:x behind z -30 -5 and z behind y -9 6 or x at 3 8;sure u:z at 40 60;"
        + "open y behind z 5 9;ask q:x behind y -8 -2;ask r:z at 1 2;";
    private static final String[] NEXT = {
        WHOLE, "place a;place b;way a b 5;", "time x;say a:x at 5 9;", "time x;say a:x at 5 9 or x at 2 3;",
        "time x;time y;open x behind y 5 9;", "time x;time y;say a:x behind y 5 9;", "time x;time y;ask a:x behind y 5 9;",
        "who p;time x;say a:x at 5 9 and x at 7 8;say b:x at 20 30;", "time x;sure a:x at 5 9;", "",
    };

    private static int wrong = 0;
    private static int refused = 0;

    public static void main(String[] args) {
        long from = args.length > 0 ? Long.parseLong(args[0]) : 1;
        long many = args.length > 1 ? Long.parseLong(args[1]) : 300;
        for (String bad : spoiledInTurn()) {
            for (String next : NEXT) {
                behindRefused(bad, next);
            }
        }
        for (long seed = from; seed < from + many && wrong < 5; seed++) {
            Random random = new Random(seed);
            String next = TextMaker.makeLive(random, 2 + random.nextInt(4));
            String bad = TextMaker.spoil(random, TextMaker.makeLive(random, 2 + random.nextInt(4)));
            behindRefused(bad, next);
            keepsWhatWasTold(next, bad);
        }
        if (refused < many) {
            wrong++;
            System.out.println("only " + refused + " texts were refused: this test sees too little");
        }
        System.out.println(wrong == 0 ? "refused texts leave nothing" : wrong + " are wrong");
        System.exit(wrong == 0 ? 0 : 1);
    }

    /** The text that is cut at each byte, and with each of its INTS made too great. */
    private static List<String> spoiledInTurn() {
        List<String> all = new ArrayList<>();
        for (int at = 0; at < WHOLE.length(); at++) {
            all.add(WHOLE.substring(0, at));
            if (Character.isDigit(WHOLE.charAt(at)) && !Character.isDigit(WHOLE.charAt(at - 1))) {
                all.add(WHOLE.substring(0, at) + "1441" + restBehindInt(at));
            }
        }
        return all;
    }

    private static String restBehindInt(int at) {
        int end = at;
        while (Character.isDigit(WHOLE.charAt(end))) {
            end++;
        }
        return WHOLE.substring(end);
    }

    private static void behindRefused(String bad, String next) {
        NightHours n = new NightHours();
        if (Tape.read(n, bad) == 0) {
            return;
        }
        refused++;
        NightHours fresh = new NightHours();
        int fault = Tape.read(n, next);
        same("behind a refused text", bad, next, fault + answers(n), Tape.read(fresh, next) + answers(fresh));
    }

    private static void keepsWhatWasTold(String first, String bad) {
        NightHours n = new NightHours();
        Tape.read(n, first);
        n.doubt(0, true);
        n.set(0, 30);
        n.pick(1, 0);
        n.pick(100, 1);
        n.more(0, -1, 0, 700);
        String told = answers(n);
        if (Tape.read(n, bad) != 0) {
            same("what a refused text is read over", bad, first, answers(n), told);
        }
    }

    private static void same(String what, String bad, String text, String got, String want) {
        if (!got.equals(want)) {
            wrong++;
            System.out.println(what + ": refused: " + bad + "\n  told: " + text + "\n  got: " + got + "\n  due: " + want);
        }
    }

    /** What an object answers to some 500 calls that change nothing. */
    static String answers(NightHours n) {
        StringBuilder b = new StringBuilder();
        for (int what = 0; what < 20; what++) {
            put(b, n.count(what));
        }
        for (int i = 0; i < 36; i++) {
            put(b, n.walk(i / 6, i % 6), n.move(i, 0), n.move(i, 1), n.move(i, 2));
        }
        put(b, n.ways(), n.keep(), n.breaks(), n.setWays(), n.stands(), n.ring(), n.next(), n.plan(0), n.plan(1), n.first(1));
        put(b, n.quarrels(), n.givingUps(), n.cheapest(), n.price(), n.give(), n.quarrel(0), n.givingUp(0));
        for (int s = 0; s < 10; s++) {
            put(b, n.choice(0, s), n.forced(s), n.bears(s), n.alone(s));
        }
        for (int t = 0; t < 10; t++) {
            put(b, n.ends(t, false), n.ends(t, true), n.hour(1, t, false), n.slack(0, t, true), n.hand(0, t));
            for (int y = 0; y < t; y++) {
                put(b, n.gap(0, t, y, false), n.gap(0, t, y, true));
            }
        }
        for (int q = 0; q < 5; q++) {
            put(b, n.ask(q, false), n.ask(q, true), n.left(1 << q, 0), n.kept(q), n.goes(q, 0), n.tried(q, 0), n.choice(q, 1), n.drawn(0, 0, 100 * q));
        }
        put(b, n.could(0, 0, 0, 1440), n.could(0, 1, 50, 60), n.been(0, 0, true), n.been(0, 1, false));
        return b.toString();
    }

    private static void put(StringBuilder b, int... answers) {
        for (int answer : answers) {
            b.append(' ').append(answer);
        }
    }
}
