import java.nio.charset.StandardCharsets;
import java.util.ArrayList;
import java.util.List;
import java.util.Random;

/**
 * Random texts and random calls: NightHours must answer as PlainNight does.
 * With two numbers as arguments: the first seed and how many.
 */
public final class CompareTest {
    private static final int CALLS = 110;
    private final NightHours real = new NightHours();
    private final PlainNight plain = new PlainNight();
    private final List<String> calls = new ArrayList<>();
    private final Random random;
    private String text = "";
    private int wrong = 0;

    private CompareTest(long seed) {
        random = new Random(seed);
    }

    public static void main(String[] args) {
        long from = args.length > 0 ? Long.parseLong(args[0]) : 1;
        long many = args.length > 1 ? Long.parseLong(args[1]) : 500;
        int wrong = 0;
        for (long seed = from; seed < from + many && wrong < 5; seed++) {
            wrong += new CompareTest(seed).run(seed);
        }
        System.out.println(wrong == 0 ? "as plain as can be" : wrong + " runs differ");
        System.exit(wrong == 0 ? 0 : 1);
    }

    private int run(long seed) {
        int size = random.nextInt(12) == 0 ? 10 : 2 + random.nextInt(5);
        int texts = 1 + random.nextInt(3);
        for (int i = 0; i < CALLS && wrong == 0; i++) {
            if (i % (CALLS / texts) == 0) {
                readNew(size);
            }
            plain.forget();
            one();
        }
        if (wrong > 0) {
            System.out.println("seed " + seed + ", text: " + text);
            calls.forEach(c -> System.out.println("  " + c));
        }
        return wrong;
    }

    private void due(String call, long got, long want) {
        calls.add(call + " = " + got);
        if (got != want) {
            wrong++;
            calls.add("   due was " + want);
        }
    }

    private static long of(boolean b) {
        return b ? 1 : 0;
    }

    private void readNew(int size) {
        double slip = random.nextInt(3) == 0 ? 0.004 * (1 + random.nextInt(5)) : 0;
        int kind = random.nextInt(size == 10 ? 6 : 5);
        if (random.nextInt(3) == 0) {
            text = TextMaker.spoil(random, TextMaker.makeLive(random, size));
            feedAndRead();
        }
        text = kind == 5 ? TextMaker.makeFull(random) : kind < 3 ? TextMaker.makeLive(random, size) : TextMaker.make(random, slip, size);
        feedAndRead();
    }

    private void feedAndRead() {
        byte[] bytes = text.getBytes(StandardCharsets.ISO_8859_1);
        int rounds = (bytes.length + 19) / 20;
        for (int r = 0; r < rounds; r++) {
            int[] v = Tape.twenty(bytes, 20 * r);
            due("feed", real.feed(v[0], v[1], v[2], v[3], v[4]), plain.feed(v[0], v[1], v[2], v[3], v[4]));
        }
        int over = real.count(7) - bytes.length;
        if (over > 0) {
            due("back " + over, real.back(over), plain.back(over));
        }
        due("read", real.read(), plain.read());
        due("place", real.place(), plain.place());
        calls.add("  of text: " + text);
        plain.forget();
        for (int what = -1; what < 22; what++) {
            int n = what;
            due("count " + n, real.count(n), plain.count(n));
        }
    }

    /** Picks or sets much at once: else rings and HOURS that are SET would be rare. */
    private void much(boolean flag) {
        int w = wayNo();
        if (flag) {
            for (int t = 0; t < real.count(2); t++) {
                int m = Math.max(-1, real.hour(w, t, false));
                due("set " + t + " " + m, of(real.set(t, m)), of(plain.set(t, m)));
            }
            return;
        }
        for (int s = 0; s < real.count(3); s++) {
            int c = random.nextInt(Math.max(1, real.count(10 + s)));
            due("pick " + s + " " + c, of(real.pick(s, c)), of(plain.pick(s, c)));
        }
        for (int k = 0; k < real.count(5); k++) {
            int c = random.nextInt(2);
            due("pick move " + k + " " + c, of(real.pick(100 + k, c)), of(plain.pick(100 + k, c)));
        }
    }

    private int up(int most) {
        return random.nextInt(12) == 0 ? random.nextInt(40) - 15 : random.nextInt(most);
    }

    private int timeNo() {
        return up(Math.max(1, real.count(2)));
    }

    private int sayingNo() {
        return up(Math.max(1, real.count(3)));
    }

    private int moveNo() {
        return up(Math.max(1, real.count(5)));
    }

    private int personNo() {
        return up(Math.max(1, real.count(0)));
    }

    private int placeNo() {
        return up(Math.max(1, real.count(1)));
    }

    private int questionNo() {
        return up(Math.max(1, real.count(4)));
    }

    private int wayNo() {
        return up(Math.max(1, real.ways()));
    }

    private int minute() {
        int[] reaches = {13, 70, 200, 500, 1441};
        return random.nextInt(30) == 0 ? 1439 + random.nextInt(4) : random.nextInt(reaches[random.nextInt(5)]) - (random.nextInt(30) == 0 ? 10 : 0);
    }

    private void one() {
        int k = random.nextInt(45);
        boolean flag = random.nextBoolean();
        if (k == 44) {
            much(flag);
        } else if (k < 15) {
            state(k, flag);
        } else if (k < 30) {
            hoursAndSets(k, flag);
        } else {
            questionsAndMore(k, flag);
        }
    }

    private void state(int k, boolean flag) {
        int s = sayingNo();
        int t = timeNo();
        int w = wayNo();
        int m = minute();
        switch (k) {
            case 0 -> {
                boolean is = random.nextInt(3) == 0;
                due("doubt " + s + " " + is, of(real.doubt(s, is)), of(plain.doubt(s, is)));
            }
            case 1 -> {
                int b = placeNo();
                int a = placeNo();
                due("walk " + a + " " + b, real.walk(a, b), plain.walk(a, b));
            }
            case 2 -> {
                int i = moveNo();
                int what = random.nextInt(5) - 1;
                due("move " + i + " " + what, real.move(i, what), plain.move(i, what));
            }
            case 3 -> due("ways", real.ways(), plain.ways());
            case 4 -> due("choice " + w + " " + s, real.choice(w, s), plain.choice(w, s));
            case 5 -> {
                int i = moveNo();
                due("goes " + w + " " + i, real.goes(w, i), plain.goes(w, i));
            }
            case 6, 7 -> due("hour " + w + " " + t + " " + flag, real.hour(w, t, flag), plain.hour(w, t, flag));
            case 8 -> {
                int y = timeNo();
                due("gap " + w + " " + t + " " + y + " " + flag, real.gap(w, t, y, flag), plain.gap(w, t, y, flag));
            }
            case 9 -> due("ends " + t + " " + flag, real.ends(t, flag), plain.ends(t, flag));
            case 10 -> due("can " + t + " " + m, real.can(t, m), plain.can(t, m));
            case 11 -> due("forced " + s, real.forced(s), plain.forced(s));
            default -> {
                int hour = random.nextInt(4) == 0 ? -1 : random.nextBoolean() ? m : real.hour(w, t, flag);
                due("set " + t + " " + hour, of(real.set(t, hour)), of(plain.set(t, hour)));
            }
        }
    }

    private void hoursAndSets(int k, boolean flag) {
        int s = sayingNo();
        int i = random.nextInt(6) - 1;
        switch (k) {
            case 15 -> due("bears " + s, real.bears(s), plain.bears(s));
            case 16 -> due("breaks", real.breaks(), plain.breaks());
            case 17 -> due("quarrels", real.quarrels(), plain.quarrels());
            case 18 -> due("quarrel " + i, real.quarrel(i), plain.quarrel(i));
            case 19 -> due("givingUps", real.givingUps(), plain.givingUps());
            case 20 -> due("givingUp " + i, real.givingUp(i), plain.givingUp(i));
            case 21 -> due("cheapest", real.cheapest(), plain.cheapest());
            case 22 -> due("price", real.price(), plain.price());
            case 23, 24, 25, 26 -> {
                int item = flag ? s : 100 + moveNo();
                int c = random.nextInt(4) - (random.nextInt(3) == 0 ? 1 : 0);
                due("pick " + item + " " + c, of(real.pick(item, c)), of(plain.pick(item, c)));
            }
            case 27 -> due("stands", real.stands(), plain.stands());
            case 28 -> due("ring", real.ring(), plain.ring());
            default -> due("ringAt " + i, real.ringAt(i), plain.ringAt(i));
        }
    }

    private void questionsAndMore(int k, boolean flag) {
        int q = questionNo();
        int p = personNo();
        int place = placeNo();
        int w = wayNo();
        int t = timeNo();
        int a = minute();
        int b = minute();
        switch (k) {
            case 30 -> {
                int to = random.nextInt(4) == 0 ? b : a + random.nextInt(30);
                due("could " + p + " " + place + " " + a + " " + to, real.could(p, place, a, to), plain.could(p, place, a, to));
            }
            case 31 -> due("been " + p + " " + place + " " + flag, real.been(p, place, flag), plain.been(p, place, flag));
            case 32 -> due("ask " + q + " " + flag, real.ask(q, flag), plain.ask(q, flag));
            case 33 -> due("next", real.next(), plain.next());
            case 34 -> {
                int bits = 1 << Math.max(0, real.count(4));
                int yes = random.nextInt(bits) & random.nextInt(bits);
                int no = random.nextInt(6) == 0 ? up(bits) : random.nextInt(bits) & ~yes;
                due("left " + yes + " " + no, real.left(yes, no), plain.left(yes, no));
            }
            case 35 -> {
                int m = flag ? up(6) : random.nextInt(Math.max(1, real.ways()));
                due("plan " + m, real.plan(m), plain.plan(m));
                due("first " + m, real.first(m), plain.first(m));
            }
            case 36 -> moreOrFewer(flag);
            case 37 -> {
                int i = up(Math.max(1, real.count(6)));
                int what = random.nextInt(5) - 1;
                due("tried " + i + " " + what, real.tried(i, what), plain.tried(i, what));
            }
            case 38 -> due("setWays", real.setWays(), plain.setWays());
            case 39 -> due("slack " + w + " " + t + " " + flag, real.slack(w, t, flag), plain.slack(w, t, flag));
            case 40 -> due("drawn " + w + " " + p + " " + a, real.drawn(w, p, a), plain.drawn(w, p, a));
            case 41 -> due(flag ? "give" : "keep", flag ? real.give() : real.keep(), flag ? plain.give() : plain.keep());
            case 42 -> {
                int s = sayingNo();
                due("alone " + s, real.alone(s), plain.alone(s));
            }
            default -> {
                due("kept " + w, real.kept(w), plain.kept(w));
                due("hand " + w + " " + t, real.hand(w, t), plain.hand(w, t));
            }
        }
    }

    private void moreOrFewer(boolean flag) {
        if (flag) {
            due("fewer", real.fewer(), plain.fewer());
            return;
        }
        int x = timeNo();
        int y = random.nextInt(3) == 0 ? -1 : timeNo();
        int low = minute() - (y == -1 ? 0 : minute());
        int high = low + random.nextInt(100) - 2;
        due("more " + x + " " + y + " " + low + " " + high, real.more(x, y, low, high), plain.more(x, y, low, high));
    }
}
