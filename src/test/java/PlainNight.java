import java.util.ArrayList;
import java.util.Arrays;
import java.util.Collections;
import java.util.Comparator;
import java.util.List;
import java.util.Set;
import java.util.TreeMap;
import java.util.Map;

/**
 * The document once more, as slowly and plainly as can be, to compare NightHours with: every answer is worked out
 * anew from lists of bounds, nothing is kept from one call to the next.
 */
final class PlainNight {
    static final int NONE = -1;
    static final int INF = 1_000_000;

    /** u less v is at most w; -1 stands for minute 0. */
    record Bound(int u, int v, int w) { }

    record Span(int x, int y, int low, int high) {
        List<Bound> bounds(int g) {
            return List.of(new Bound(x, y, high + g), new Bound(y, x, -(low - g)));
        }
    }

    record Act(String name, int person, int place) { }

    static final class Saying {
        boolean sure;
        int trust = 1;
        List<List<Span>> alls = new ArrayList<>();
    }

    record Open(int x, int y, int low, int high) { }

    record Way(int[] says, int[] moves, List<Bound> bounds) { }

    record Item(int code, List<List<Bound>> choices) { }

    record Try(int item, int choice, boolean stood) { }

    static final class Text {
        List<String> persons = new ArrayList<>();
        List<String> places = new ArrayList<>();
        List<Act> times = new ArrayList<>();
        List<Saying> sayings = new ArrayList<>();
        List<Span> questions = new ArrayList<>();
        List<Open> opens = new ArrayList<>();
        List<int[]> paths = new ArrayList<>();
        Map<String, String> kinds = new TreeMap<>();
        List<String> sayingNames = new ArrayList<>();
    }

    /** The end of reading, with its FAULT. */
    static final class Fault extends RuntimeException {
        private static final long serialVersionUID = 1L;
        final int number;
        final int place;

        Fault(int number, int place) {
            super(null, null, false, false);
            this.number = number;
            this.place = place;
        }
    }

    record Token(String kind, String text, int place) { }

    private static final Set<String> WORDS = Set.of("who", "place", "way", "time", "of", "in", "say", "trust", "sure",
        "or", "open", "behind", "ask", "and", "at");

    private final StringBuilder tape = new StringBuilder();
    private Text text = new Text();
    private int faultPlace = NONE;
    private final boolean[] doubted = new boolean[10];
    private final int[] hours = new int[10];
    private final Map<Integer, Integer> picks = new TreeMap<>();
    private final List<Span> mores = new ArrayList<>();

    PlainNight() {
        Arrays.fill(hours, NONE);
    }

    int feed(int a, int b, int c, int d, int e) {
        if (tape.length() + 20 > 2000) {
            return NONE;
        }
        for (int v : new int[] {a, b, c, d, e}) {
            tape.append((char) (v >>> 24)).append((char) (v >> 16 & 255)).append((char) (v >> 8 & 255)).append((char) (v & 255));
        }
        return tape.length();
    }

    int back(int n) {
        if (n < 0 || n > tape.length()) {
            return NONE;
        }
        tape.setLength(tape.length() - n);
        return tape.length();
    }

    // ---- reading: first the grammar alone, then the meaning, each by going down the grammar ----

    private List<Token> tokens;
    private int at;
    private boolean meaning;
    private Text reading;
    private final Map<String, Integer> tellCounts = new TreeMap<>();

    int read() {
        String s = tape.toString();
        tape.setLength(0);
        try {
            tokens = tokenize(s);
            for (boolean second : new boolean[] {false, true}) {
                meaning = second;
                reading = new Text();
                tellCounts.clear();
                at = 0;
                while (!peek().kind.equals("end")) {
                    tell();
                }
            }
        } catch (Fault f) {
            faultPlace = f.place;
            return f.number;
        }
        faultPlace = NONE;
        text = reading;
        Arrays.fill(doubted, false);
        Arrays.fill(hours, NONE);
        picks.clear();
        mores.clear();
        return 0;
    }

    static List<Token> tokenize(String s) {
        List<Token> all = new ArrayList<>();
        int i = 0;
        while (i < s.length()) {
            char c = s.charAt(i);
            int j = i;
            if (c == 9 || c == 10 || c == 13 || c == 32) {
                i++;
                continue;
            }
            String kind;
            if (c >= 'a' && c <= 'z') {
                while (j < s.length() && s.charAt(j) >= 'a' && s.charAt(j) <= 'z') {
                    j++;
                }
                String word = s.substring(i, j);
                kind = word.length() > 8 ? "bad" : WORDS.contains(word) ? word : "NAME";
            } else if (c >= '0' && c <= '9') {
                while (j < s.length() && s.charAt(j) >= '0' && s.charAt(j) <= '9') {
                    j++;
                }
                kind = j - i > 4 ? "bad" : "INT";
            } else {
                j = i + 1;
                kind = c == ';' || c == ':' || c == '-' ? "" + c : "bad";
            }
            all.add(new Token(kind, s.substring(i, j), i));
            i = j;
        }
        all.add(new Token("end", "", s.length()));
        return all;
    }

    private Token peek() {
        return tokens.get(at);
    }

    private boolean sees(String kind) {
        return peek().kind.equals(kind);
    }

    private Token need(String kind) {
        Token t = peek();
        if (!t.kind.equals(kind)) {
            throw new Fault(1, t.place);
        }
        if (at >= 500) {
            throw new Fault(2, t.place);
        }
        at++;
        return t;
    }

    private void wrong(boolean is, int number, Token t) {
        if (meaning && is) {
            throw new Fault(number, t.place);
        }
    }

    private int integer() {
        Token t = need("INT");
        int v = Integer.parseInt(t.text);
        wrong(v > 1440, 5, t);
        return v;
    }

    private int signed() {
        if (sees("-")) {
            need("-");
            return -integer();
        }
        return integer();
    }

    private void count(String group, int most, Token t) {
        int n = tellCounts.merge(group, 1, Integer::sum);
        if (n > most) {
            throw new Fault(2, t.place);
        }
    }

    private String fresh(String kind) {
        Token t = need("NAME");
        wrong(reading.kinds.containsKey(t.text), 3, t);
        reading.kinds.put(t.text, kind);
        return t.text;
    }

    private int known(String kind, List<String> names) {
        Token t = need("NAME");
        wrong(!kind.equals(reading.kinds.get(t.text)), 4, t);
        return names.indexOf(t.text);
    }

    private int knownTime() {
        List<String> names = new ArrayList<>();
        for (Act a : reading.times) {
            names.add(a.name);
        }
        return known("time", names);
    }

    private void tell() {
        Token t = peek();
        switch (t.kind) {
            case "who" -> {
                need("who");
                count("who", 4, t);
                reading.persons.add(fresh("who"));
            }
            case "place" -> {
                need("place");
                count("place", 6, t);
                reading.places.add(fresh("place"));
            }
            case "way" -> {
                need("way");
                count("way", 12, t);
                int a = known("place", reading.places);
                Token second = peek();
                int b = known("place", reading.places);
                wrong(a == b, 5, second);
                reading.paths.add(new int[] {a, b, integer()});
            }
            case "time" -> {
                need("time");
                count("time", 10, t);
                String name = fresh("time");
                int person = -1;
                int place = -1;
                if (sees("of")) {
                    need("of");
                    person = known("who", reading.persons);
                    need("in");
                    place = known("place", reading.places);
                }
                reading.times.add(new Act(name, person, place));
            }
            case "say", "sure" -> saying(t);
            case "open" -> {
                need("open");
                count("open", 4, t);
                Token first = peek();
                int x = knownTime();
                wrong(reading.opens.stream().anyMatch(o -> o.x == x), 5, first);
                need("behind");
                Token second = peek();
                int y = knownTime();
                wrong(x == y || reading.opens.stream().anyMatch(o -> o.x == y || o.y == x), 5, second);
                reading.opens.add(new Open(x, y, integer(), integer()));
            }
            case "ask" -> {
                need("ask");
                count("ask", 5, t);
                fresh("ask");
                need(":");
                reading.questions.add(span());
            }
            default -> throw new Fault(1, t.place);
        }
        need(";");
    }

    private void saying(Token t) {
        need(t.kind);
        count("say", 10, t);
        Saying s = new Saying();
        s.sure = t.kind.equals("sure");
        fresh("say");
        if (!s.sure && sees("trust")) {
            need("trust");
            Token number = peek();
            s.trust = integer();
            wrong(s.trust == 0 || s.trust > 100, 5, number);
        }
        need(":");
        reading.sayings.add(s);
        s.alls.add(all());
        while (sees("or")) {
            Token or = need("or");
            if (s.alls.size() == 4) {
                throw new Fault(2, or.place);
            }
            s.alls.add(all());
        }
    }

    private List<Span> all() {
        List<Span> spans = new ArrayList<>();
        spans.add(span());
        while (sees("and")) {
            Token and = need("and");
            if (spans.size() == 3) {
                throw new Fault(2, and.place);
            }
            spans.add(span());
        }
        return spans;
    }

    private Span span() {
        int x = knownTime();
        if (sees("at")) {
            need("at");
            return new Span(x, NONE, integer(), integer());
        }
        need("behind");
        int y = knownTime();
        return new Span(x, y, signed(), signed());
    }

    int place() {
        return faultPlace;
    }

    // ---- hours ----

    /** By how much u may be behind v at most; null: there are no HOURS. Paths are relaxed bound by bound. */
    private Integer most(List<Bound> bounds, int times, int u, int v) {
        // distance[k + 1]: the most that k may be behind v.
        int[] distance = new int[times + 1];
        Arrays.fill(distance, INF);
        distance[v + 1] = 0;
        for (int round = 0; round <= times + 1; round++) {
            boolean changed = false;
            for (Bound b : bounds) {
                int through = distance[b.v + 1] + b.w;
                if (distance[b.v + 1] < INF && through < distance[b.u + 1]) {
                    distance[b.u + 1] = through;
                    changed = true;
                }
            }
            if (!changed) {
                return distance[u + 1];
            }
        }
        return null;
    }

    private boolean stand(List<Bound> bounds, int times) {
        return most(bounds, times, NONE, NONE) != null;
    }

    private static List<Bound> with(List<Bound> a, List<Bound> b) {
        List<Bound> both = new ArrayList<>(a);
        both.addAll(b);
        return both;
    }

    private List<Bound> night(int times) {
        List<Bound> bounds = new ArrayList<>();
        for (int t = 0; t < times; t++) {
            bounds.add(new Bound(t, NONE, 1440));
            bounds.add(new Bound(NONE, t, 0));
        }
        return bounds;
    }

    private List<Bound> always(int times) {
        List<Bound> bounds = night(times);
        for (Open o : text.opens) {
            bounds.addAll(new Span(o.x, o.y, o.low, o.high).bounds(0));
        }
        for (Span s : mores) {
            bounds.addAll(s.bounds(0));
        }
        return bounds;
    }

    private int walkOf(int a, int b) {
        if (a == b) {
            return 0;
        }
        // Minutes to each place by going over all ways as often as there are places.
        int[] far = new int[text.places.size()];
        Arrays.fill(far, INF);
        far[a] = 0;
        for (int round = 0; round < far.length; round++) {
            for (int[] p : text.paths) {
                far[p[1]] = Math.min(far[p[1]], far[p[0]] + p[2]);
                far[p[0]] = Math.min(far[p[0]], far[p[1]] + p[2]);
            }
        }
        return far[b] >= INF ? -2 : far[b];
    }

    private List<int[]> moves() {
        List<int[]> all = new ArrayList<>();
        for (int a = 0; a < text.times.size(); a++) {
            for (int b = a + 1; b < text.times.size(); b++) {
                Act one = text.times.get(a);
                Act two = text.times.get(b);
                if (one.person >= 0 && one.person == two.person && one.place != two.place) {
                    all.add(new int[] {a, b, walkOf(one.place, two.place)});
                }
            }
        }
        return all;
    }

    private static List<List<Bound>> moveChoices(int lesser, int greater, int walk) {
        if (walk < 0) {
            return List.of();
        }
        return List.of(List.of(new Bound(lesser, greater, -walk)), List.of(new Bound(greater, lesser, -walk)));
    }

    private List<Item> items(int bits, int widened, int g) {
        List<Item> items = new ArrayList<>();
        for (int s = 0; s < text.sayings.size(); s++) {
            if ((bits >> s & 1) == 0) {
                continue;
            }
            List<List<Bound>> choices = new ArrayList<>();
            for (List<Span> all : text.sayings.get(s).alls) {
                List<Bound> bounds = new ArrayList<>();
                for (Span span : all) {
                    bounds.addAll(span.bounds((widened >> s & 1) * g));
                }
                choices.add(bounds);
            }
            items.add(new Item(s, choices));
        }
        List<int[]> moves = moves();
        for (int k = 0; k < moves.size(); k++) {
            int[] m = moves.get(k);
            items.add(new Item(100 + k, moveChoices(m[0], m[1], m[2])));
        }
        return items;
    }

    private int undoubted() {
        int bits = 0;
        for (int s = 0; s < text.sayings.size(); s++) {
            bits |= doubted[s] ? 0 : 1 << s;
        }
        return bits;
    }

    private int sures() {
        int bits = 0;
        for (int s = 0; s < text.sayings.size(); s++) {
            bits |= text.sayings.get(s).sure ? 1 << s : 0;
        }
        return bits;
    }

    /** GOING THROUGH, by recursion. */
    private final class Going {
        final List<Item> items;
        final int times;
        final boolean toFirst;
        final List<Try> tries = new ArrayList<>();
        final List<Way> ways = new ArrayList<>();
        boolean spent = false;
        private final int[] chosen;

        Going(List<Item> items, List<Bound> base, int times, boolean toFirst) {
            this.items = items;
            this.times = times;
            this.toFirst = toFirst;
            this.chosen = new int[items.size()];
            if (stand(base, times)) {
                go(0, base);
            }
        }

        private boolean over() {
            return spent || (toFirst && !ways.isEmpty());
        }

        private void go(int k, List<Bound> bounds) {
            if (k == items.size()) {
                ways.add(new Way(choices(false), choices(true), bounds));
                return;
            }
            List<List<Bound>> choices = items.get(k).choices;
            for (int c = 0; c < choices.size() && !over(); c++) {
                if (tries.size() == 1000) {
                    spent = true;
                    return;
                }
                List<Bound> more = with(bounds, choices.get(c));
                boolean stood = stand(more, times);
                tries.add(new Try(items.get(k).code, c, stood));
                chosen[k] = c;
                if (stood) {
                    go(k + 1, more);
                }
            }
        }

        private int[] choices(boolean ofMoves) {
            int[] row = new int[ofMoves ? 45 : 10];
            for (int k = 0; k < items.size(); k++) {
                int code = items.get(k).code;
                if (ofMoves && code >= 100 && code < 200) {
                    row[code - 100] = chosen[k];
                } else if (!ofMoves && code < 100) {
                    row[code] = chosen[k];
                }
            }
            return row;
        }
    }

    private Going cache = null;

    /** GOING THROUGH all; kept within one call alone. */
    private Going whole() {
        if (cache == null) {
            int times = text.times.size();
            cache = new Going(items(undoubted(), 0, 0), always(times), times, false);
        }
        return cache;
    }

    /** To be called ahead of each call, so that no answer hangs on an earlier one. */
    void forget() {
        cache = null;
    }

    boolean doubt(int saying, boolean is) {
        if (saying < 0 || saying >= text.sayings.size() || text.sayings.get(saying).sure) {
            return false;
        }
        doubted[saying] = is;
        if (is) {
            picks.remove(saying);
        }
        return true;
    }

    int walk(int a, int b) {
        int n = text.places.size();
        return a < 0 || b < 0 || a >= n || b >= n ? NONE : walkOf(a, b);
    }

    int move(int k, int what) {
        List<int[]> moves = moves();
        return k < 0 || k >= moves.size() || what < 0 || what > 2 ? NONE : moves.get(k)[what];
    }

    int ways() {
        return whole().spent ? -3 : whole().ways.size();
    }

    private Going going;
    private Way way;

    /** 0, or what to answer since there is no WAY w to look at. */
    private int look(int w) {
        if (w < 0) {
            return NONE;
        }
        going = whole();
        if (going.spent) {
            return -3;
        }
        if (w >= going.ways.size()) {
            return NONE;
        }
        way = going.ways.get(w);
        return 0;
    }

    private boolean isTime(int t) {
        return t >= 0 && t < text.times.size();
    }

    private boolean isSaying(int s) {
        return s >= 0 && s < text.sayings.size();
    }

    private static boolean isMinute(int m) {
        return m >= 0 && m <= 1440;
    }

    int choice(int w, int k) {
        if (!isSaying(k)) {
            return NONE;
        }
        int refusal = look(w);
        return refusal != 0 ? refusal : doubted[k] ? -2 : way.says[k];
    }

    int goes(int w, int move) {
        if (move < 0 || move >= moves().size()) {
            return NONE;
        }
        int refusal = look(w);
        return refusal != 0 ? refusal : way.moves[move];
    }

    private int end(Way w, int times, int x, int y, boolean most) {
        return most ? most(w.bounds, times, x, y) : -most(w.bounds, times, y, x);
    }

    int hour(int w, int time, boolean most) {
        if (!isTime(time)) {
            return NONE;
        }
        int refusal = look(w);
        return refusal != 0 ? refusal : end(way, text.times.size(), time, NONE, most);
    }

    int gap(int w, int x, int y, boolean most) {
        if (!isTime(x) || !isTime(y) || look(w) != 0) {
            return -10000;
        }
        return end(way, text.times.size(), x, y, most);
    }

    int ends(int time, boolean most) {
        if (!isTime(time)) {
            return NONE;
        }
        if (whole().spent) {
            return -3;
        }
        List<Integer> minutes = new ArrayList<>();
        for (Way w : whole().ways) {
            minutes.add(end(w, text.times.size(), time, NONE, most));
        }
        return minutes.isEmpty() ? -2 : most ? Collections.max(minutes) : Collections.min(minutes);
    }

    private int countWaysWith(List<Bound> extra) {
        int n = 0;
        for (Way w : whole().ways) {
            n += stand(with(w.bounds, extra), text.times.size()) ? 1 : 0;
        }
        return n;
    }

    int can(int time, int minute) {
        if (!isTime(time) || !isMinute(minute)) {
            return NONE;
        }
        return whole().spent ? -3 : countWaysWith(new Span(time, NONE, minute, minute).bounds(0));
    }

    int forced(int saying) {
        if (!isSaying(saying) || doubted[saying]) {
            return NONE;
        }
        if (whole().spent) {
            return -3;
        }
        long kinds = whole().ways.stream().map(w -> w.says[saying]).distinct().count();
        return kinds == 1 ? whole().ways.get(0).says[saying] : -2;
    }

    boolean set(int time, int minute) {
        if (!isTime(time) || minute < -1 || minute > 1440) {
            return false;
        }
        hours[time] = minute;
        return true;
    }

    int bears(int saying) {
        if (!isSaying(saying)) {
            return NONE;
        }
        List<List<Span>> alls = text.sayings.get(saying).alls;
        for (List<Span> all : alls) {
            for (Span s : all) {
                if (hours[s.x] == NONE || (s.y != NONE && hours[s.y] == NONE)) {
                    return -4;
                }
            }
        }
        for (int c = 0; c < alls.size(); c++) {
            boolean holds = true;
            for (Span s : alls.get(c)) {
                int d = hours[s.x] - (s.y == NONE ? 0 : hours[s.y]);
                holds &= d >= s.low && d <= s.high;
            }
            if (holds) {
                return c;
            }
        }
        return -2;
    }

    int breaks() {
        List<int[]> moves = moves();
        for (int k = 0; k < moves.size(); k++) {
            int[] m = moves.get(k);
            if (hours[m[0]] == NONE || hours[m[1]] == NONE) {
                continue;
            }
            boolean zero = m[2] >= 0 && hours[m[1]] - hours[m[0]] >= m[2];
            boolean one = m[2] >= 0 && hours[m[0]] - hours[m[1]] >= m[2];
            if (!zero && !one) {
                return k;
            }
        }
        return -2;
    }

    /** Null: SPENT. */
    private List<List<Integer>> sets() {
        int times = text.times.size();
        int whole = undoubted() & ~sures();
        Map<Integer, Boolean> has = new TreeMap<>();
        for (int bits = 0; bits < 1024; bits++) {
            if ((bits | whole) == whole) {
                Going g = new Going(items(bits | sures(), 0, 0), always(times), times, true);
                if (g.spent) {
                    return null;
                }
                has.put(bits, !g.ways.isEmpty());
            }
        }
        List<Integer> quarrels = new ArrayList<>();
        List<Integer> givings = new ArrayList<>();
        for (int bits : has.keySet()) {
            boolean quarrel = !has.get(bits);
            boolean giving = has.get(whole ^ bits);
            for (int s = 0; s < 10; s++) {
                if ((bits >> s & 1) != 0) {
                    quarrel &= has.get(bits ^ 1 << s);
                    giving &= !has.get(whole ^ bits ^ 1 << s);
                }
            }
            if (quarrel) {
                quarrels.add(bits);
            }
            if (giving) {
                givings.add(bits);
            }
        }
        Comparator<Integer> order = Comparator.comparingInt((Integer b) -> Integer.bitCount(b)).thenComparingInt(b -> b);
        quarrels.sort(order);
        givings.sort(order);
        return List.of(quarrels, givings);
    }

    private int setCount(int which) {
        List<List<Integer>> sets = sets();
        return sets == null ? -3 : sets.get(which).size();
    }

    private int setAt(int which, int i) {
        if (i < 0) {
            return NONE;
        }
        List<List<Integer>> sets = sets();
        if (sets == null) {
            return -3;
        }
        return i >= sets.get(which).size() ? NONE : sets.get(which).get(i);
    }

    int quarrels() {
        return setCount(0);
    }

    int quarrel(int i) {
        return setAt(0, i);
    }

    int givingUps() {
        return setCount(1);
    }

    int givingUp(int i) {
        return setAt(1, i);
    }

    private int trust(int bits) {
        int sum = 0;
        for (int s = 0; s < text.sayings.size(); s++) {
            sum += (bits >> s & 1) != 0 ? text.sayings.get(s).trust : 0;
        }
        return sum;
    }

    int cheapest() {
        List<List<Integer>> sets = sets();
        if (sets == null) {
            return -3;
        }
        return sets.get(1).stream().min(Comparator.comparingInt(this::trust)).orElse(-2);
    }

    int price() {
        int bits = cheapest();
        return bits < 0 ? bits : trust(bits);
    }

    boolean pick(int item, int choice) {
        int choices;
        if (isSaying(item)) {
            if (doubted[item]) {
                return false;
            }
            choices = text.sayings.get(item).alls.size();
        } else if (item >= 100 && item < 100 + moves().size()) {
            choices = moves().get(item - 100)[2] < 0 ? 0 : 2;
        } else {
            return false;
        }
        if (choice == NONE) {
            picks.remove(item);
            return true;
        }
        if (choice < 0 || choice >= choices) {
            return false;
        }
        picks.put(item, choice);
        return true;
    }

    private boolean pickedStand(List<Integer> codes) {
        int times = text.times.size();
        List<Bound> bounds = always(times);
        for (Item item : items(-1, 0, 0)) {
            if (codes.contains(item.code)) {
                bounds.addAll(item.choices.get(picks.get(item.code)));
            }
        }
        return stand(bounds, times);
    }

    int stands() {
        return pickedStand(new ArrayList<>(picks.keySet())) ? 1 : 0;
    }

    private List<Integer> ringItems() {
        List<Integer> rest = new ArrayList<>(picks.keySet());
        if (pickedStand(rest)) {
            return null;
        }
        for (Integer code : new ArrayList<>(rest)) {
            List<Integer> without = new ArrayList<>(rest);
            without.remove(code);
            if (!pickedStand(without)) {
                rest = without;
            }
        }
        return rest;
    }

    int ring() {
        List<Integer> ring = ringItems();
        return ring == null ? -2 : ring.size();
    }

    int ringAt(int i) {
        List<Integer> ring = ringItems();
        return ring == null || i < 0 || i >= ring.size() ? NONE : ring.get(i);
    }

    private Going withGuest(int person, int place, int a, int b) {
        int guest = text.times.size();
        List<Bound> base = with(always(guest), new Span(guest, NONE, a, b).bounds(0));
        List<Item> items = items(undoubted(), 0, 0);
        for (int t = 0; t < guest; t++) {
            Act act = text.times.get(t);
            if (act.person == person && act.place != place) {
                items.add(new Item(200 + t, moveChoices(t, guest, walkOf(act.place, place))));
            }
        }
        return new Going(items, base, guest + 1, false);
    }

    private boolean isWhere(int person, int place) {
        return person >= 0 && person < text.persons.size() && place >= 0 && place < text.places.size();
    }

    int could(int person, int place, int a, int b) {
        if (!isWhere(person, place) || !isMinute(a) || !isMinute(b)) {
            return NONE;
        }
        Going g = withGuest(person, place, a, b);
        return g.spent ? -3 : g.ways.isEmpty() ? 0 : 1;
    }

    int been(int person, int place, boolean most) {
        if (!isWhere(person, place)) {
            return NONE;
        }
        Going g = withGuest(person, place, 0, 1440);
        if (g.spent) {
            return -3;
        }
        int guest = text.times.size();
        int end = -2;
        for (Way w : g.ways) {
            int minute = end(w, guest + 1, guest, NONE, most);
            end = end == -2 ? minute : most ? Math.max(end, minute) : Math.min(end, minute);
        }
        return end;
    }

    /** All ways to say no of the QUESTIONS of no, joined with yes to those of yes. */
    private List<List<Bound>> answers(int yes, int no) {
        List<List<Bound>> all = new ArrayList<>();
        all.add(List.of());
        for (int q = 0; q < text.questions.size(); q++) {
            Span s = text.questions.get(q);
            List<List<Bound>> next = new ArrayList<>();
            for (List<Bound> bounds : all) {
                if ((yes >> q & 1) != 0) {
                    next.add(with(bounds, s.bounds(0)));
                } else if ((no >> q & 1) != 0) {
                    next.add(with(bounds, List.of(new Bound(s.x, s.y, s.low - 1))));
                    next.add(with(bounds, List.of(new Bound(s.y, s.x, -(s.high + 1)))));
                } else {
                    next.add(bounds);
                }
            }
            all = next;
        }
        return all;
    }

    private int leftWays(int yes, int no) {
        int n = 0;
        List<List<Bound>> answers = answers(yes, no);
        for (Way w : whole().ways) {
            boolean left = false;
            for (List<Bound> a : answers) {
                left = left || stand(with(w.bounds, a), text.times.size());
            }
            n += left ? 1 : 0;
        }
        return n;
    }

    int ask(int question, boolean yes) {
        if (question < 0 || question >= text.questions.size()) {
            return NONE;
        }
        return whole().spent ? -3 : leftWays(yes ? 1 << question : 0, yes ? 0 : 1 << question);
    }

    int next() {
        if (text.questions.isEmpty()) {
            return -2;
        }
        if (whole().spent) {
            return -3;
        }
        int best = 0;
        for (int q = 1; q < text.questions.size(); q++) {
            if (worst(q) < worst(best)) {
                best = q;
            }
        }
        return best;
    }

    private int worst(int q) {
        return Math.max(ask(q, true), ask(q, false));
    }

    int left(int yes, int no) {
        int n = text.questions.size();
        for (int q = 0; q < 32; q++) {
            int answers = (yes >>> q & 1) + (no >>> q & 1);
            if (answers == 2 || (answers == 1 && q >= n)) {
                return NONE;
            }
        }
        return whole().spent ? -3 : leftWays(yes, no);
    }

    private final Map<Integer, Integer> leftKnown = new TreeMap<>();

    /** How many more QUESTIONS at the worst; INF: no PLAN. */
    private int planned(int yes, int no, int m) {
        int left = leftKnown.computeIfAbsent(yes << 5 | no, k -> leftWays(yes, no));
        if (left <= m) {
            return 0;
        }
        int best = INF;
        for (int q = 0; q < text.questions.size(); q++) {
            if (((yes | no) >> q & 1) == 0) {
                best = Math.min(best, 1 + plannedWith(yes, no, q, m));
            }
        }
        return Math.min(best, INF);
    }

    private int plannedWith(int yes, int no, int q, int m) {
        return Math.max(planned(yes | 1 << q, no, m), planned(yes, no | 1 << q, m));
    }

    private int planRefusal(int m) {
        if (m < 0 || m > 1000) {
            return NONE;
        }
        leftKnown.clear();
        return whole().spent || whole().ways.size() > 64 ? -3 : 0;
    }

    int plan(int m) {
        int refusal = planRefusal(m);
        if (refusal != 0) {
            return refusal;
        }
        int n = planned(0, 0, m);
        return n >= INF ? -2 : n;
    }

    int first(int m) {
        int refusal = planRefusal(m);
        if (refusal != 0) {
            return refusal;
        }
        int n = planned(0, 0, m);
        if (n == 0 || n >= INF) {
            return -2;
        }
        for (int q = 0; q < text.questions.size(); q++) {
            if (1 + plannedWith(0, 0, q, m) == n) {
                return q;
            }
        }
        throw new IllegalStateException("a plan without a first question");
    }

    int more(int x, int y, int a, int b) {
        boolean fine = isTime(x) && (y == NONE || isTime(y)) && a >= -1440 && a <= 1440 && b >= -1440 && b <= 1440;
        if (!fine || mores.size() == 6) {
            return NONE;
        }
        mores.add(new Span(x, y, a, b));
        return mores.size();
    }

    int fewer() {
        if (mores.isEmpty()) {
            return NONE;
        }
        mores.remove(mores.size() - 1);
        return mores.size();
    }

    int tried(int i, int what) {
        List<Try> tries = whole().tries;
        if (i < 0 || i >= tries.size() || what < 0 || what > 2) {
            return NONE;
        }
        Try t = tries.get(i);
        return what == 0 ? t.item : what == 1 ? t.choice : t.stood ? 1 : 0;
    }

    private List<Bound> hoursSet() {
        List<Bound> bounds = new ArrayList<>();
        for (int t = 0; t < text.times.size(); t++) {
            if (hours[t] != NONE) {
                bounds.addAll(new Span(t, NONE, hours[t], hours[t]).bounds(0));
            }
        }
        return bounds;
    }

    int setWays() {
        return whole().spent ? -3 : countWaysWith(hoursSet());
    }

    int slack(int w, int time, boolean most) {
        if (!isTime(time)) {
            return NONE;
        }
        int refusal = look(w);
        if (refusal != 0) {
            return refusal;
        }
        int times = text.times.size();
        List<Bound> bounds = with(way.bounds, hoursSet());
        if (!stand(bounds, times)) {
            return -2;
        }
        return most ? most(bounds, times, time, NONE) : -most(bounds, times, NONE, time);
    }

    int drawn(int w, int person, int minute) {
        if (person < 0 || person >= text.persons.size() || !isMinute(minute)) {
            return NONE;
        }
        int refusal = look(w);
        if (refusal != 0) {
            return refusal;
        }
        List<int[]> acts = new ArrayList<>();
        for (int t = 0; t < text.times.size(); t++) {
            if (text.times.get(t).person == person) {
                acts.add(new int[] {end(way, text.times.size(), t, NONE, false), text.times.get(t).place});
            }
        }
        // A stable sort keeps the least number first among those of one minute.
        acts.sort(Comparator.comparingInt(a -> a[0]));
        int[] a = null;
        int[] b = null;
        for (int[] act : acts) {
            if (act[0] == minute) {
                return act[1];
            }
            if (act[0] < minute && (a == null || a[0] < act[0])) {
                a = act;
            }
            if (act[0] > minute && b == null) {
                b = act;
            }
        }
        if (a == null) {
            return -2;
        }
        return b == null || minute <= b[0] - walkOf(a[1], b[1]) ? a[1] : -4;
    }

    private int leastGive(int widened) {
        int times = text.times.size();
        int low = 0;
        int high = 1441;
        while (low < high) {
            int mid = (low + high) / 2;
            Going g = new Going(items(undoubted(), widened, mid), always(times), times, true);
            if (g.spent) {
                return -3;
            }
            if (g.ways.isEmpty()) {
                low = mid + 1;
            } else {
                high = mid;
            }
        }
        return low;
    }

    int give() {
        return leastGive(~sures());
    }

    int alone(int saying) {
        return !isSaying(saying) || text.sayings.get(saying).sure || doubted[saying] ? NONE : leastGive(1 << saying);
    }

    private Open openOf(int time) {
        for (Open o : text.opens) {
            if (o.x == time) {
                return o;
            }
        }
        return null;
    }

    /** All that must hold of WAY w, once for each corner of what the open ones' distances may be. */
    private List<Bound> cornered(Way w) {
        int times = text.times.size();
        List<Bound> told = night(times);
        for (Item item : items(undoubted(), 0, 0)) {
            int c = item.code < 100 ? w.says[item.code] : w.moves[item.code - 100];
            told.addAll(item.choices.get(c));
        }
        for (Span s : mores) {
            told.addAll(s.bounds(0));
        }
        List<Bound> all = new ArrayList<>();
        for (int corner = 0; corner < 1 << text.opens.size(); corner++) {
            for (Bound b : told) {
                all.add(new Bound(stead(b.u), stead(b.v), b.w - shift(b.u, corner) + shift(b.v, corner)));
            }
        }
        return all;
    }

    private int stead(int time) {
        Open o = openOf(time);
        return o == null ? time : o.y;
    }

    private int shift(int time, int corner) {
        Open o = openOf(time);
        return o == null ? 0 : (corner >> text.opens.indexOf(o) & 1) != 0 ? o.high : o.low;
    }

    int kept(int w) {
        int refusal = look(w);
        return refusal != 0 ? refusal : stand(cornered(way), text.times.size()) ? 1 : 0;
    }

    int keep() {
        if (whole().spent) {
            return -3;
        }
        for (int w = 0; w < whole().ways.size(); w++) {
            if (kept(w) == 1) {
                return w;
            }
        }
        return -2;
    }

    int hand(int w, int time) {
        if (!isTime(time)) {
            return NONE;
        }
        int kept = kept(w);
        if (kept != 1) {
            return kept == 0 ? NONE : kept;
        }
        return openOf(time) != null ? -2 : -most(cornered(way), text.times.size(), NONE, time);
    }

    int count(int what) {
        return switch (what) {
            case 0 -> text.persons.size();
            case 1 -> text.places.size();
            case 2 -> text.times.size();
            case 3 -> text.sayings.size();
            case 4 -> text.questions.size();
            case 5 -> moves().size();
            case 6 -> whole().spent ? 1001 : whole().tries.size();
            case 7 -> tape.length();
            default -> what >= 10 && isSaying(what - 10) ? text.sayings.get(what - 10).alls.size() : NONE;
        };
    }
}
