import java.util.ArrayList;
import java.util.List;
import java.util.Random;

/** Makes texts, most of them right, some with a FAULT somewhere. */
final class TextMaker {
    private final Random random;
    private final StringBuilder text = new StringBuilder();
    private final List<String> persons = new ArrayList<>();
    private final List<String> places = new ArrayList<>();
    private final List<String> times = new ArrayList<>();
    private final List<String> opened = new ArrayList<>();
    private final List<String> all = new ArrayList<>();
    private final List<Integer> truth = new ArrayList<>();
    private double slip = 0;
    private int reach = 100;
    private boolean live = false;
    private double lie = 0;

    TextMaker(Random random) {
        this.random = random;
    }

    /**
     * A text whose spans lie about one night that is thought of, so that many WAYS are likely: with more persons'
     * ways, fewer lies.
     */
    static String makeLive(Random random, int size) {
        TextMaker m = new TextMaker(random);
        m.live = true;
        m.lie = random.nextInt(3) == 0 ? 0.0 : random.nextDouble() * 0.35;
        m.reach = new int[] {60, 200, 600, 1400}[random.nextInt(4)];
        m.buildLive(size);
        return m.text.toString();
    }

    /** A night as large as can be, its hours nearly fixed, so that GOING THROUGH so many ITEMS is not SPENT. */
    static String makeFull(Random random) {
        TextMaker m = new TextMaker(random);
        m.live = true;
        m.lie = random.nextInt(4) == 0 ? 0.1 : 0;
        m.reach = 1400;
        m.buildFull();
        return m.text.toString();
    }

    private void buildFull() {
        tell(0);
        for (int i = 0; i < 6; i++) {
            tell(1);
        }
        for (int i = 1; i < 6; i++) {
            words("way", places.get(i), places.get(random.nextInt(i)), "" + upTo(20), ";");
        }
        for (int i = 0; i < 10; i++) {
            time();
        }
        open();
        open();
        for (int i = 0; i < 10; i += 3) {
            words(random.nextInt(3) == 0 ? "sure" : "say", fresh(), ":");
            for (int k = i; k < Math.min(10, i + 3); k++) {
                int at = truth.get(k);
                words(k > i ? new String[] {"and"} : new String[0]);
                words(times.get(k), "at", "" + at, "" + Math.min(1440, at + (random.nextInt(6) == 0 ? 30 : 0)));
            }
            word(";");
        }
        for (int i = 4; i < 10; i++) {
            if (random.nextInt(3) == 0) {
                words("say", fresh(), ":");
                span();
                word(";");
            } else {
                words("say", fresh(), ":", times.get(i), "at", "0", "1440", ";");
            }
        }
        for (int i = 0; i < 5; i++) {
            tell(6);
        }
    }

    private void buildLive(int size) {
        int who = 1 + upTo(Math.min(3, size / 3));
        int where = 2 + upTo(Math.min(4, size / 2));
        for (int i = 0; i < who; i++) {
            tell(0);
        }
        for (int i = 0; i < where; i++) {
            tell(1);
        }
        for (int i = 1; i < where; i++) {
            words("way", places.get(i), places.get(random.nextInt(i)), "" + upTo(Math.max(1, reach / 8)), ";");
        }
        for (int i = upTo(4); i > 0; i--) {
            path();
        }
        for (int i = 2 + upTo(Math.min(8, size)); i > 0; i--) {
            time();
        }
        for (int i = upTo(Math.min(3, size / 2)); i > 0; i--) {
            open();
        }
        for (int i = 1 + upTo(Math.min(9, size)); i > 0; i--) {
            saying();
        }
        for (int i = upTo(5); i > 0; i--) {
            tell(6);
        }
    }

    /** A text of some size; slips are places where it goes wrong on purpose. */
    static String make(Random random, double slip, int size) {
        TextMaker m = new TextMaker(random);
        m.slip = slip;
        m.reach = new int[] {12, 60, 100, 400, 1440}[random.nextInt(5)];
        m.build(size);
        return m.text.toString();
    }

    /** The text with one of its words, numbers or signs gone, changed, or cut there: most often a FAULT. */
    static String spoil(Random random, String text) {
        List<Integer> starts = new ArrayList<>();
        List<Integer> numbers = new ArrayList<>();
        for (int i = 0; i < text.length(); i++) {
            boolean begins = i == 0 || !Character.isLetterOrDigit(text.charAt(i)) || !Character.isLetterOrDigit(text.charAt(i - 1));
            if (begins && text.charAt(i) > ' ') {
                starts.add(i);
                if (Character.isDigit(text.charAt(i))) {
                    numbers.add(i);
                }
            }
        }
        boolean atNumber = random.nextBoolean() && !numbers.isEmpty();
        List<Integer> from = atNumber ? numbers : starts;
        if (from.isEmpty()) {
            return "?";
        }
        int at = from.get(random.nextInt(from.size()));
        int end = at + 1;
        while (end < text.length() && Character.isLetterOrDigit(text.charAt(at)) && Character.isLetterOrDigit(text.charAt(end))) {
            end++;
        }
        String[] odd = atNumber ? new String[] {"1441", "9999", "-1441", "12345"} : new String[] {"", "who", "nobody", ";", ":", "-", "?", "7"};
        String rest = random.nextInt(6) == 0 ? "" : text.substring(end);
        return text.substring(0, at) + odd[random.nextInt(odd.length)] + rest;
    }

    private boolean slips() {
        return random.nextDouble() < slip;
    }

    private int upTo(int most) {
        return random.nextInt(most + 1);
    }

    private void word(String w) {
        String[] blanks = {" ", " ", " ", "  ", "\n", "\t", "\r\n"};
        char last = text.length() == 0 ? ';' : text.charAt(text.length() - 1);
        boolean bothLetters = Character.isLetter(last) && Character.isLetter(w.charAt(0));
        boolean bothDigits = Character.isDigit(last) && Character.isDigit(w.charAt(0));
        if (bothLetters || bothDigits || random.nextInt(4) > 0) {
            text.append(blanks[random.nextInt(blanks.length)]);
        }
        if (slips()) {
            String[] odd = {"who", "x", "abcdefghi", "12345", ";", ":", "-", ".", "A", "or", "and", "1441", "0", "at", "of", "trust", "\u00e9"};
            text.append(odd[random.nextInt(odd.length)]);
            if (random.nextBoolean()) {
                return;
            }
            text.append(' ');
        }
        text.append(w);
    }

    private void words(String... ws) {
        for (String w : ws) {
            word(w);
        }
    }

    private String fresh() {
        if (slips() && !all.isEmpty()) {
            return all.get(random.nextInt(all.size()));
        }
        String name;
        do {
            int length = 1 + random.nextInt(random.nextInt(5) == 0 ? 8 : 2);
            StringBuilder b = new StringBuilder();
            for (int i = 0; i < length; i++) {
                b.append((char) ('a' + random.nextInt(26)));
            }
            name = b.toString();
        } while (all.contains(name) || List.of("of", "in", "or", "at", "who", "way", "say", "ask", "and", "time", "sure", "open", "place", "trust", "behind").contains(name));
        all.add(name);
        return name;
    }

    private String some(List<String> names) {
        if ((slips() && !all.isEmpty()) || names.isEmpty()) {
            return all.isEmpty() ? "nobody" : all.get(random.nextInt(all.size()));
        }
        return names.get(random.nextInt(names.size()));
    }

    private String number(int most) {
        if (slips()) {
            return new String[] {"0", "1440", "1441", "9999", "101", "0007"}[random.nextInt(6)];
        }
        return "" + upTo(most);
    }

    private void build(int size) {
        int[] order = {0, 1, 2, 3, 4, 5, 6};
        int[] most = {
            1 + upTo(Math.min(3, size)), 1 + upTo(Math.min(5, size)), upTo(Math.min(12, 2 * size)),
            1 + upTo(Math.min(9, size)), upTo(Math.min(10, size)), upTo(Math.min(4, size / 2)), upTo(Math.min(5, size)),
        };
        if (random.nextInt(20) == 0) {
            for (int i = 0; i < most.length; i++) {
                most[i] = 0;
            }
        }
        if (slips()) {
            most[random.nextInt(7)] += 1 + upTo(6);
        }
        for (int kind : order) {
            for (int i = 0; i < most[kind]; i++) {
                tell(kind);
            }
        }
        // Some more in any order, where there is room.
        for (int i = upTo(3); i > 0; i--) {
            int kind = random.nextInt(7);
            int[] room = {4, 6, 12, 10, 10, 4, 5};
            if (most[kind] < room[kind] || slips()) {
                most[kind]++;
                tell(kind);
            }
        }
        if (slips()) {
            text.setLength(upTo(text.length()));
        }
        if (random.nextInt(4) == 0) {
            text.append("  \n");
        }
    }

    private void tell(int kind) {
        switch (kind) {
            case 0 -> {
                String n = fresh();
                words("who", n, ";");
                persons.add(n);
            }
            case 1 -> {
                String n = fresh();
                words("place", n, ";");
                places.add(n);
            }
            case 2 -> path();
            case 3 -> time();
            case 4 -> saying();
            case 5 -> open();
            default -> {
                if (!times.isEmpty() || slips()) {
                    words("ask", fresh(), ":");
                    if (live && random.nextInt(4) > 0) {
                        words(some(times), "behind", some(times), "0", "1440");
                    } else {
                        span();
                    }
                    word(";");
                }
            }
        }
    }

    private void path() {
        String a = some(places);
        String b = some(places);
        if ((a.equals(b) || places.size() < 2) && !slips()) {
            return;
        }
        words("way", a, b, number(Math.max(1, reach / 4)), ";");
    }

    private void time() {
        String n = fresh();
        truth.add(upTo(reach));
        words("time", n);
        if (!persons.isEmpty() && !places.isEmpty() && random.nextInt(4) > 0) {
            words("of", some(persons), "in", some(places));
        }
        word(";");
        times.add(n);
    }

    private void saying() {
        if (times.isEmpty() && !slips()) {
            return;
        }
        if (random.nextInt(4) == 0) {
            words("sure", fresh());
        } else {
            words("say", fresh());
            if (random.nextInt(3) == 0) {
                words("trust", slips() ? number(1440) : "" + (1 + upTo(random.nextBoolean() ? 4 : 99)));
            }
        }
        word(":");
        int alls = 1 + (random.nextInt(3) == 0 ? upTo(3) : upTo(1)) + (slips() ? 3 : 0);
        for (int i = 0; i < alls; i++) {
            if (i > 0) {
                word("or");
            }
            int parts = 1 + (random.nextInt(3) == 0 ? upTo(2) : 0) + (slips() ? 3 : 0);
            for (int k = 0; k < parts; k++) {
                if (k > 0) {
                    word("and");
                }
                span();
            }
        }
        word(";");
    }

    private void span() {
        String x = some(times);
        int width = upTo(Math.max(1, reach / 3));
        if (live && random.nextDouble() >= lie) {
            trueSpan(x, width);
            return;
        }
        if (random.nextInt(2) == 0) {
            int low = upTo(reach);
            int high = random.nextInt(25) == 0 ? low - 1 : Math.min(1440, low + width);
            words(x, "at", slips() ? number(1440) : "" + low, "" + Math.max(0, high));
        } else {
            int low = upTo(reach) - reach / 2;
            int high = random.nextInt(25) == 0 ? low - 1 : low + width;
            words(x, "behind", some(times));
            signed(low);
            signed(Math.max(-1440, Math.min(1440, high)));
        }
    }

    private void trueSpan(String x, int width) {
        int at = truth.get(times.indexOf(x));
        int ahead = upTo(width);
        if (random.nextBoolean()) {
            words(x, "at", "" + Math.max(0, at - ahead), "" + Math.min(1440, at + width - ahead));
        } else {
            String y = some(times);
            int distance = at - truth.get(times.indexOf(y));
            words(x, "behind", y);
            signed(Math.max(-1440, distance - ahead));
            signed(Math.min(1440, distance + width - ahead));
        }
    }

    private void signed(int v) {
        if (v < 0 || (v == 0 && random.nextInt(3) == 0)) {
            word("-");
        }
        word(slips() ? number(1440) : "" + Math.abs(v));
    }

    private void open() {
        String x = some(times);
        String y = some(times);
        boolean fine = !x.equals(y) && !opened.contains(x) && !opened.contains(y) && !opened.contains("<" + x);
        if (!fine && !slips()) {
            return;
        }
        int low = upTo(reach / 4);
        int high = random.nextInt(15) == 0 ? low - 1 : low + upTo(Math.max(1, reach / 5));
        if (live) {
            int distance = truth.get(times.indexOf(x)) - truth.get(times.indexOf(y));
            if (distance < 0) {
                return;
            }
            low = Math.max(0, distance - upTo(5));
            high = distance + upTo(5);
        }
        words("open", x, "behind", y, "" + low, "" + Math.max(0, high), ";");
        opened.add(x);
        opened.add("<" + y);
    }
}
