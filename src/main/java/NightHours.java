import java.util.Arrays;

/** An office that asks whether all that was said of one night can be. */
public final class NightHours {
    public static final int NONE = -1;

    private static final int NOTHING = -2;
    private static final int SPENT = -3;
    private static final int APART = -4;
    private static final int NO_GAP = -10000;
    private static final int LAST_MINUTE = 1440;
    private static final int NO_GIVE = 1441;
    private static final int MOST_BYTES = 2000;
    private static final int FED_BYTES = 20;
    private static final int MOST_TOKENS = 500;
    private static final int MOST_NAMES = 35;
    private static final int MOST_PERSONS = 4;
    private static final int MOST_PLACES = 6;
    private static final int MOST_TIMES = 10;
    private static final int MOST_SAYINGS = 10;
    private static final int MOST_ALLS = 4;
    private static final int MOST_PARTS = 3;
    private static final int MOST_QUESTIONS = 5;
    private static final int MOST_MOVES = 45;
    private static final int MOST_MORE = 6;
    private static final int MOST_TRIES = 1000;
    private static final int MOST_PLANNED = 64;
    private static final int MOST_LEFT = 1000;
    private static final int FIRST_MOVE = 100;
    private static final int FIRST_GUEST = 200;
    private static final int OWN_ITEMS = MOST_SAYINGS + MOST_MOVES;

    private final byte[] tape = new byte[MOST_BYTES];
    private final Reader reader = new Reader();
    private final Held held = new Held();
    private final Book book = new Book();
    private final Going all;
    private final Going hard;
    private final Going side;
    private final Quarrelling quarrelling;
    private final Asking asking;
    private Told told = new Told();
    private int bytes = 0;
    private int faultPlace = NONE;
    private boolean allFresh = false;
    private boolean hardFresh = false;

    /** Nothing is told. */
    public NightHours() {
        all = new Going(OWN_ITEMS + MOST_QUESTIONS, MOST_TIMES, false, told, held);
        hard = new Going(OWN_ITEMS, MOST_TIMES, true, told, held);
        side = new Going(OWN_ITEMS + MOST_TIMES, MOST_TIMES + 1, false, told, held);
        quarrelling = new Quarrelling(side);
        asking = new Asking(all, book);
    }

    public int feed(int a, int b, int c, int d, int e) {
        if (bytes + FED_BYTES > MOST_BYTES) {
            return NONE;
        }
        putFour(a);
        putFour(b);
        putFour(c);
        putFour(d);
        putFour(e);
        return bytes;
    }

    private void putFour(int four) {
        for (int shift = 24; shift >= 0; shift -= 8) {
            if (bytes < MOST_BYTES) {
                tape[bytes] = (byte) (four >>> shift);
                bytes++;
            }
        }
    }

    public int back(int n) {
        if (n < 0 || n > bytes) {
            return NONE;
        }
        bytes -= n;
        return bytes;
    }

    public int read() {
        int fault = reader.readTape(tape, bytes);
        bytes = 0;
        faultPlace = fault == 0 ? NONE : reader.faultPlace;
        if (fault == 0) {
            told = reader.changePlaces(told);
            held.clear();
            stale();
        }
        return fault;
    }

    /** What was gone through is of no use once what is told, DOUBTED or MORE has changed. */
    private void stale() {
        allFresh = false;
        hardFresh = false;
        quarrelling.fresh = false;
        asking.fresh = false;
        quarrelling.ringFresh = false;
    }

    public int place() {
        return faultPlace;
    }

    public boolean doubt(int saying, boolean is) {
        if (!isSay(saying)) {
            return false;
        }
        int bit = 1 << saying;
        if (is) {
            held.doubted |= bit;
            held.picks[saying] = NONE;
        } else {
            held.doubted &= ~bit;
        }
        stale();
        return true;
    }

    private boolean isSaying(int saying) {
        return saying >= 0 && saying < told.sayings;
    }

    private boolean isSay(int saying) {
        return isSaying(saying) && (told.sureBits >> saying & 1) == 0;
    }

    private boolean isDoubted(int saying) {
        return (held.doubted >> saying & 1) != 0;
    }

    private boolean isTime(int time) {
        return time >= 0 && time < told.times;
    }

    private boolean isPlace(int place) {
        return place >= 0 && place < told.places;
    }

    private boolean isPerson(int person) {
        return person >= 0 && person < told.persons;
    }

    private static boolean isMinute(int minute) {
        return minute >= 0 && minute <= LAST_MINUTE;
    }

    /** What stands there in a row; the other number if the row has no such place. */
    private static int valueAt(int[] row, int i, int other) {
        return i >= 0 && i < row.length ? row[i] : other;
    }

    public int walk(int a, int b) {
        return isPlace(a) && isPlace(b) ? told.walkBetween(a, b) : NONE;
    }

    public int move(int k, int what) {
        if (k < 0 || k >= told.moves) {
            return NONE;
        }
        switch (what) {
            case 0:
                return told.moveLesser[k];
            case 1:
                return told.moveGreater[k];
            case 2:
                return told.moveWalk[k];
            default:
                return NONE;
        }
    }

    /** Goes through all if that is not known yet; false: it is SPENT. */
    private boolean isGoneThrough() {
        if (!allFresh) {
            all.begin(told, held, told.allBits() & ~held.doubted, 0);
            all.goThrough(book, false);
            allFresh = true;
        }
        return !all.spent;
    }

    /** The level that has all of WAY w; below 0 what a call answers instead. */
    private int levelOf(int w) {
        // No WAY has a number below 0, whatever GOING THROUGH finds: that it is SPENT doesn't matter then.
        if (w < 0) {
            return NONE;
        }
        if (!isGoneThrough()) {
            return SPENT;
        }
        if (w >= all.found) {
            return NONE;
        }
        all.bring(book, w);
        return all.items;
    }

    public int ways() {
        return isGoneThrough() ? all.found : SPENT;
    }

    public int choice(int w, int k) {
        if (!isSaying(k)) {
            return NONE;
        }
        int level = levelOf(w);
        if (level < 0) {
            return level;
        }
        return isDoubted(k) ? NOTHING : book.choiceOf(w, k);
    }

    public int goes(int w, int move) {
        if (move < 0 || move >= told.moves) {
            return NONE;
        }
        int level = levelOf(w);
        return level < 0 ? level : book.choiceOf(w, FIRST_MOVE + move);
    }

    public int hour(int w, int time, boolean most) {
        if (!isTime(time)) {
            return NONE;
        }
        int level = levelOf(w);
        return level < 0 ? level : all.minute(level, time, most);
    }

    public int gap(int w, int x, int y, boolean most) {
        if (!isTime(x) || !isTime(y)) {
            return NO_GAP;
        }
        int level = levelOf(w);
        return level < 0 ? NO_GAP : all.distance(level, x, y, most);
    }

    public int ends(int time, boolean most) {
        if (!isTime(time)) {
            return NONE;
        }
        if (!isGoneThrough()) {
            return SPENT;
        }
        int end = NOTHING;
        for (int w = 0; w < all.found; w++) {
            int minute = all.minute(levelOf(w), time, most);
            if (end == NOTHING || (most ? minute > end : minute < end)) {
                end = minute;
            }
        }
        return end;
    }

    public int can(int time, int minute) {
        if (!isTime(time) || !isMinute(minute)) {
            return NONE;
        }
        if (!isGoneThrough()) {
            return SPENT;
        }
        int count = 0;
        for (int w = 0; w < all.found; w++) {
            int level = levelOf(w);
            if (all.minute(level, time, false) <= minute && minute <= all.minute(level, time, true)) {
                count++;
            }
        }
        return count;
    }

    public int forced(int saying) {
        if (!isSaying(saying) || isDoubted(saying)) {
            return NONE;
        }
        if (!isGoneThrough()) {
            return SPENT;
        }
        int only = NOTHING;
        for (int w = 0; w < all.found; w++) {
            int taken = book.choiceOf(w, saying);
            if (w > 0 && taken != only) {
                return NOTHING;
            }
            only = taken;
        }
        return only;
    }

    public boolean set(int time, int minute) {
        if (!isTime(time) || (minute != NONE && !isMinute(minute))) {
            return false;
        }
        held.hours[time] = minute;
        return true;
    }

    public int bears(int saying) {
        if (!isSaying(saying)) {
            return NONE;
        }
        int bearing = NOTHING;
        for (int alt = told.choices[saying] - 1; alt >= 0; alt--) {
            int row = told.firstSpan(saying, alt);
            boolean holds = true;
            for (int i = row; i < row + told.partsOf(saying, alt); i++) {
                if (!told.spans.isSet(i, held.hours)) {
                    return APART;
                }
                holds = holds && told.spans.holds(i, held.hours);
            }
            if (holds) {
                bearing = alt;
            }
        }
        return bearing;
    }

    public int breaks() {
        for (int k = 0; k < told.moves; k++) {
            int lesser = valueAt(held.hours, told.moveLesser[k], NONE);
            int greater = valueAt(held.hours, told.moveGreater[k], NONE);
            int minutes = told.moveWalk[k];
            if (lesser == NONE || greater == NONE) {
                continue;
            }
            if (minutes < 0 || Math.abs(greater - lesser) < minutes) {
                return k;
            }
        }
        return NOTHING;
    }

    public int quarrels() {
        return quarrelling.isKnown(told, held) ? quarrelling.quarrelCount : SPENT;
    }

    public int quarrel(int i) {
        // As with WAYS: below 0 there is none, SPENT or not.
        if (i < 0) {
            return NONE;
        }
        if (!quarrelling.isKnown(told, held)) {
            return SPENT;
        }
        return i < quarrelling.quarrelCount ? quarrelling.quarrelRow[i] : NONE;
    }

    public int givingUps() {
        return quarrelling.isKnown(told, held) ? quarrelling.givingCount : SPENT;
    }

    public int givingUp(int i) {
        if (i < 0) {
            return NONE;
        }
        if (!quarrelling.isKnown(told, held)) {
            return SPENT;
        }
        return i < quarrelling.givingCount ? quarrelling.givingRow[i] : NONE;
    }

    public int cheapest() {
        if (!quarrelling.isKnown(told, held)) {
            return SPENT;
        }
        int i = quarrelling.cheapestGiving(told);
        return i < 0 ? NOTHING : quarrelling.givingRow[i];
    }

    public int price() {
        if (!quarrelling.isKnown(told, held)) {
            return SPENT;
        }
        int i = quarrelling.cheapestGiving(told);
        return i < 0 ? NOTHING : told.trustOf(quarrelling.givingRow[i]);
    }

    public boolean pick(int item, int choice) {
        int row;
        int choices;
        if (isSaying(item) && !isDoubted(item)) {
            row = item;
            choices = told.choices[item];
        } else if (item >= FIRST_MOVE && item - FIRST_MOVE < told.moves) {
            row = MOST_SAYINGS + item - FIRST_MOVE;
            choices = told.moveWalk[item - FIRST_MOVE] < 0 ? 0 : 2;
        } else {
            return false;
        }
        if (choice < NONE || choice >= choices) {
            return false;
        }
        held.picks[row] = choice;
        quarrelling.ringFresh = false;
        return true;
    }

    public int stands() {
        return quarrelling.isTight(told, held) ? 0 : 1;
    }

    public int ring() {
        return quarrelling.isTight(told, held) ? quarrelling.ringCount : NOTHING;
    }

    public int ringAt(int i) {
        return quarrelling.isTight(told, held) && i >= 0 && i < quarrelling.ringCount ? quarrelling.ringRow[i] : NONE;
    }

    public int could(int person, int place, int a, int b) {
        if (!isPerson(person) || !isPlace(place) || !isMinute(a) || !isMinute(b)) {
            return NONE;
        }
        if (a > b) {
            return 0;
        }
        goWithGuest(person, place, a, b);
        if (side.spent) {
            return SPENT;
        }
        return side.found > 0 ? 1 : 0;
    }

    private void goWithGuest(int person, int place, int a, int b) {
        side.begin(told, held, told.allBits() & ~held.doubted, 1);
        side.host(person, place, a, b);
        side.goThrough(null, false);
    }

    public int been(int person, int place, boolean most) {
        if (!isPerson(person) || !isPlace(place)) {
            return NONE;
        }
        goWithGuest(person, place, 0, LAST_MINUTE);
        if (side.spent) {
            return SPENT;
        }
        if (side.found == 0) {
            return NOTHING;
        }
        return most ? side.guestMost : side.guestLeast;
    }

    public int ask(int question, boolean yes) {
        if (question < 0 || question >= told.questions) {
            return NONE;
        }
        return isGoneThrough() ? asking.answered(told, question, yes) : SPENT;
    }

    public int next() {
        if (told.questions == 0) {
            return NOTHING;
        }
        if (!isGoneThrough()) {
            return SPENT;
        }
        int best = NONE;
        int least = 0;
        for (int q = 0; q < told.questions; q++) {
            int worst = Math.max(asking.answered(told, q, true), asking.answered(told, q, false));
            if (best == NONE || worst < least) {
                best = q;
                least = worst;
            }
        }
        return best;
    }

    public int left(int yes, int no) {
        int others = -1 << told.questions;
        if (((yes | no) & others) != 0 || (yes & no) != 0) {
            return NONE;
        }
        return isGoneThrough() ? asking.leftWith(told, yes, no) : SPENT;
    }

    /** Below 0 what plan and first answer at once; else the PLANS to m are worked out. */
    private int planTo(int m) {
        if (m < 0 || m > MOST_LEFT) {
            return NONE;
        }
        if (!isGoneThrough() || all.found > MOST_PLANNED) {
            return SPENT;
        }
        asking.countStates(told);
        asking.workOut(told, m);
        return asking.needed[0] > MOST_QUESTIONS ? NOTHING : 0;
    }

    public int plan(int m) {
        int refusal = planTo(m);
        return refusal < 0 ? refusal : asking.needed[0];
    }

    public int first(int m) {
        int refusal = planTo(m);
        return refusal < 0 ? refusal : asking.firstQuestion(told);
    }

    public int more(int x, int y, int a, int b) {
        boolean areTimes = isTime(x) && (y == NONE || isTime(y));
        if (!areTimes || Math.min(a, b) < -LAST_MINUTE || Math.max(a, b) > LAST_MINUTE) {
            return NONE;
        }
        if (held.moreCount >= MOST_MORE) {
            return NONE;
        }
        held.more.put(held.moreCount, x, y);
        held.more.bound(held.moreCount, a, b);
        held.moreCount++;
        stale();
        return held.moreCount;
    }

    public int fewer() {
        if (held.moreCount <= 0) {
            return NONE;
        }
        held.moreCount--;
        stale();
        return held.moreCount;
    }

    public int tried(int i, int what) {
        isGoneThrough();
        if (i < 0 || i >= Math.min(all.tries, MOST_TRIES)) {
            return NONE;
        }
        return book.tryOf(i, what);
    }

    public int setWays() {
        if (!isGoneThrough()) {
            return SPENT;
        }
        int count = 0;
        for (int w = 0; w < all.found; w++) {
            if (all.takes(levelOf(w), held.hours)) {
                count++;
            }
        }
        return count;
    }

    public int slack(int w, int time, boolean most) {
        if (!isTime(time)) {
            return NONE;
        }
        int level = levelOf(w);
        if (level < 0) {
            return level;
        }
        return all.takes(level, held.hours) ? all.minuteWith(level, time, held.hours, most) : NOTHING;
    }

    public int drawn(int w, int person, int minute) {
        if (!isPerson(person) || !isMinute(minute)) {
            return NONE;
        }
        int level = levelOf(w);
        return level < 0 ? level : whereAt(level, person, minute);
    }

    private int whereAt(int level, int person, int minute) {
        int ahead = NONE;
        int behind = NONE;
        int aheadAt = NONE;
        int behindAt = NONE;
        for (int t = 0; t < told.times; t++) {
            if (told.timePerson[t] != person) {
                continue;
            }
            int at = all.minute(level, t, false);
            if (at == minute) {
                return told.timePlace[t];
            }
            if (at < minute && at > aheadAt) {
                ahead = t;
                aheadAt = at;
            }
            if (at > minute && (behind == NONE || at < behindAt)) {
                behind = t;
                behindAt = at;
            }
        }
        if (ahead == NONE) {
            return NOTHING;
        }
        if (behind == NONE) {
            return told.timePlace[ahead];
        }
        int minutes = told.walkBetween(told.timePlace[ahead], told.timePlace[behind]);
        return minutes >= 0 && minute <= behindAt - minutes ? told.timePlace[ahead] : APART;
    }

    public int give() {
        return leastGive(told.allBits() & ~told.sureBits & ~held.doubted);
    }

    public int alone(int saying) {
        if (!isSay(saying) || isDoubted(saying)) {
            return NONE;
        }
        return leastGive(1 << saying);
    }

    private int leastGive(int widened) {
        int low = 0;
        int high = NO_GIVE;
        for (int step = 0; step < NO_GIVE && low < high; step++) {
            int mid = (low + high) / 2;
            side.begin(told, held, told.allBits() & ~held.doubted, 0);
            side.widen(widened, mid);
            side.goThrough(null, true);
            if (side.spent) {
                return SPENT;
            }
            if (side.found > 0) {
                high = mid;
            } else {
                low = mid + 1;
            }
        }
        return low;
    }

    private boolean isKept(int w) {
        if (!hardFresh) {
            hard.begin(told, held, told.allBits() & ~held.doubted, 0);
            hardFresh = true;
        }
        return hard.based && hard.bring(book, w);
    }

    public int kept(int w) {
        int level = levelOf(w);
        if (level < 0) {
            return level;
        }
        return isKept(w) ? 1 : 0;
    }

    public int keep() {
        if (!isGoneThrough()) {
            return SPENT;
        }
        for (int w = 0; w < all.found; w++) {
            if (isKept(w)) {
                return w;
            }
        }
        return NOTHING;
    }

    public int hand(int w, int time) {
        if (!isTime(time)) {
            return NONE;
        }
        int level = levelOf(w);
        if (level < 0) {
            return level;
        }
        if (!isKept(w)) {
            return NONE;
        }
        return told.isOpen(time) ? NOTHING : hard.minute(hard.items, time, false);
    }

    public int count(int what) {
        switch (what) {
            case 0:
                return told.persons;
            case 1:
                return told.places;
            case 2:
                return told.times;
            case 3:
                return told.sayings;
            case 4:
                return told.questions;
            case 5:
                return told.moves;
            case 6:
                isGoneThrough();
                return all.tries;
            case 7:
                return bytes;
            default:
                return what >= 10 && isSaying(what - 10) ? told.choices[what - 10] : NONE;
        }
    }

    /** Spans in rows: x less y (y NONE: x itself) is low .. high. */
    private static final class Spans {
        final int[] x;
        final int[] y;
        final int[] low;
        final int[] high;

        Spans(int rows) {
            x = new int[rows];
            y = new int[rows];
            low = new int[rows];
            high = new int[rows];
        }

        void put(int row, int ofX, int ofY) {
            if (hasRow(row)) {
                x[row] = ofX;
                y[row] = ofY;
            }
        }

        void bound(int row, int from, int to) {
            if (hasRow(row)) {
                low[row] = from;
                high[row] = to;
            }
        }

        private boolean hasRow(int row) {
            return row >= 0 && row < x.length;
        }

        boolean isSet(int row, int[] hours) {
            return hasRow(row) && valueAt(hours, x[row], NONE) != NONE && (y[row] == NONE || valueAt(hours, y[row], NONE) != NONE);
        }

        /** Of a span whose TIMES are SET: whether it holds with these hours. */
        boolean holds(int row, int[] hours) {
            if (!hasRow(row)) {
                return false;
            }
            int distance = valueAt(hours, x[row], 0) - valueAt(hours, y[row], 0);
            return low[row] <= distance && distance <= high[row];
        }
    }

    /** A text as it was told. */
    private static final class Told {
        int persons;
        int places;
        int times;
        int sayings;
        int questions;
        int moves;
        int sureBits;
        final int[] walks = new int[MOST_PLACES * MOST_PLACES];
        final int[] timePerson = new int[MOST_TIMES];
        final int[] timePlace = new int[MOST_TIMES];
        // Row t is of TIME t: the span of an open one, y NONE of one that is not.
        final Spans opens = new Spans(MOST_TIMES);
        final int[] trust = new int[MOST_SAYINGS];
        final int[] choices = new int[MOST_SAYINGS];
        final int[] parts = new int[MOST_SAYINGS * MOST_ALLS];
        final Spans spans = new Spans(MOST_SAYINGS * MOST_ALLS * MOST_PARTS);
        final Spans asked = new Spans(MOST_QUESTIONS);
        final int[] moveLesser = new int[MOST_MOVES];
        final int[] moveGreater = new int[MOST_MOVES];
        final int[] moveWalk = new int[MOST_MOVES];

        Told() {
            clear();
        }

        void clear() {
            persons = 0;
            places = 0;
            times = 0;
            sayings = 0;
            questions = 0;
            moves = 0;
            sureBits = 0;
            Arrays.fill(walks, NOTHING);
            for (int p = 0; p < MOST_PLACES; p++) {
                walks[p * MOST_PLACES + p] = 0;
            }
            Arrays.fill(timePerson, NONE);
            Arrays.fill(timePlace, NONE);
            Arrays.fill(opens.y, NONE);
            Arrays.fill(trust, 1);
            Arrays.fill(choices, 0);
            Arrays.fill(parts, 0);
        }

        void addSaying(boolean isSure) {
            if (sayings >= MOST_SAYINGS) {
                return;
            }
            if (isSure) {
                sureBits |= 1 << sayings;
            }
            choices[sayings] = 1;
            parts[sayings * MOST_ALLS] = 1;
            sayings++;
        }

        /** One more SPAN of the last SAYING: of an ALL of its own, or of its last one. */
        void addPart(boolean isNewAll) {
            int saying = sayings - 1;
            if (saying < 0 || saying >= MOST_SAYINGS) {
                return;
            }
            if (isNewAll && choices[saying] < MOST_ALLS) {
                choices[saying]++;
            }
            int all = saying * MOST_ALLS + choices[saying] - 1;
            if (all >= 0 && all < parts.length && parts[all] < MOST_PARTS) {
                parts[all]++;
            }
        }

        /** The row of the last SAYING's last SPAN. */
        int lastSpan() {
            int saying = sayings - 1;
            int all = valueAt(choices, saying, 0) - 1;
            return firstSpan(saying, all) + partsOf(saying, all) - 1;
        }

        void trustLast(int value) {
            if (sayings > 0 && sayings <= MOST_SAYINGS) {
                trust[sayings - 1] = value;
            }
        }

        /** Into a row with a place for each TIME, at the last one's. */
        void putLastTime(int[] row, int value) {
            if (times > 0 && times <= row.length) {
                row[times - 1] = value;
            }
        }

        boolean isOpen(int time) {
            return valueAt(opens.y, time, NONE) != NONE;
        }

        int allBits() {
            return (1 << sayings) - 1;
        }

        int firstSpan(int saying, int alt) {
            return (saying * MOST_ALLS + alt) * MOST_PARTS;
        }

        int partsOf(int saying, int alt) {
            int all = saying * MOST_ALLS + alt;
            return all >= 0 && all < parts.length ? parts[all] : 0;
        }

        int walkBetween(int a, int b) {
            if (a < 0 || a >= MOST_PLACES || b < 0 || b >= MOST_PLACES) {
                return NOTHING;
            }
            return walks[a * MOST_PLACES + b];
        }

        int trustOf(int bits) {
            int sum = 0;
            for (int s = 0; s < sayings; s++) {
                sum += (bits >> s & 1) * trust[s];
            }
            return sum;
        }

        void addPath(int a, int b, int minutes) {
            if (a < 0 || a >= MOST_PLACES || b < 0 || b >= MOST_PLACES) {
                return;
            }
            int there = a * MOST_PLACES + b;
            int old = walks[there];
            if (old < 0 || minutes < old) {
                walks[there] = minutes;
                walks[b * MOST_PLACES + a] = minutes;
            }
        }

        void findWalks() {
            for (int by = 0; by < places; by++) {
                for (int a = 0; a < places; a++) {
                    for (int b = 0; b < a; b++) {
                        int one = walkBetween(a, by);
                        int two = walkBetween(by, b);
                        if (one >= 0 && two >= 0) {
                            addPath(a, b, one + two);
                        }
                    }
                }
            }
        }

        void findMoves() {
            moves = 0;
            for (int a = 0; a < times; a++) {
                for (int b = a + 1; b < times; b++) {
                    boolean same = timePerson[a] != NONE && timePerson[a] == timePerson[b];
                    if (same && timePlace[a] != timePlace[b] && moves < MOST_MOVES) {
                        moveLesser[moves] = a;
                        moveGreater[moves] = b;
                        moveWalk[moves] = walkBetween(timePlace[a], timePlace[b]);
                        moves++;
                    }
                }
            }
        }
    }

    /** What calls have laid upon the text: DOUBTED, SET, PICKED, MORE. */
    private static final class Held {
        int doubted;
        int moreCount;
        final int[] hours = new int[MOST_TIMES];
        final int[] picks = new int[OWN_ITEMS];
        final Spans more = new Spans(MOST_MORE);

        Held() {
            clear();
        }

        void clear() {
            doubted = 0;
            moreCount = 0;
            Arrays.fill(hours, NONE);
            Arrays.fill(picks, NONE);
        }
    }

    /** The TOKENS of a tape, one more than a text may have at most, and the text's end. */
    private static final class Tokens {
        static final int WHO = 0;
        static final int PLACE = 1;
        static final int WAY = 2;
        static final int TIME = 3;
        static final int OF = 4;
        static final int IN = 5;
        static final int SAY = 6;
        static final int TRUST = 7;
        static final int SURE = 8;
        static final int OR = 9;
        static final int OPEN = 10;
        static final int BEHIND = 11;
        static final int ASK = 12;
        static final int AND = 13;
        static final int AT = 14;
        static final int NAME = 15;
        static final int INT = 16;
        static final int SEMICOLON = 17;
        static final int COLON = 18;
        static final int MINUS = 19;
        static final int NO_TOKEN = 20;
        static final int END = 21;
        static final int LONGEST_NAME = 8;
        static final int LONGEST_INT = 4;

        // The words' letters as bytes, by the numbers above.
        private static final long[] WORDS = {
            0x77686FL, 0x706C616365L, 0x776179L, 0x74696D65L, 0x6F66L,
            0x696EL, 0x736179L, 0x7472757374L, 0x73757265L, 0x6F72L,
            0x6F70656EL, 0x626568696E64L, 0x61736BL, 0x616E64L, 0x6174L,
        };

        final int[] kind = new int[MOST_TOKENS + 2];
        final int[] place = new int[MOST_TOKENS + 2];
        final long[] value = new long[MOST_TOKENS + 2];
        int count = 0;

        void scan(byte[] tape, int length) {
            count = 0;
            int at = 0;
            for (int step = 0; step < MOST_BYTES && at < length && count <= MOST_TOKENS; step++) {
                if (isBlank(tape[at])) {
                    at++;
                } else {
                    at = scanOne(tape, at, length);
                }
            }
            kind[count] = END;
            place[count] = length;
        }

        private int scanOne(byte[] tape, int at, int length) {
            int end = at + 1;
            long sum = 0;
            place[count] = at;
            if (isLetter(tape[at])) {
                end = endOfLetters(tape, at, length);
                for (int i = at; i < end; i++) {
                    sum = sum << 8 | tape[i];
                }
                kind[count] = end - at > LONGEST_NAME ? NO_TOKEN : wordOrName(sum);
            } else if (isDigit(tape[at])) {
                end = endOfDigits(tape, at, length);
                for (int i = at; i < end; i++) {
                    sum = sum * 10 + tape[i] - '0';
                }
                kind[count] = end - at > LONGEST_INT ? NO_TOKEN : INT;
            } else {
                kind[count] = sign(tape[at]);
            }
            value[count] = sum;
            count++;
            return end;
        }

        private static int endOfLetters(byte[] tape, int at, int length) {
            int end = at;
            while (end < length && isLetter(tape[end])) {
                end++;
            }
            return end;
        }

        private static int endOfDigits(byte[] tape, int at, int length) {
            int end = at;
            while (end < length && isDigit(tape[end])) {
                end++;
            }
            return end;
        }

        private static int wordOrName(long letters) {
            for (int i = 0; i < WORDS.length; i++) {
                if (WORDS[i] == letters) {
                    return i;
                }
            }
            return NAME;
        }

        private static int sign(byte b) {
            switch (b) {
                case ';':
                    return SEMICOLON;
                case ':':
                    return COLON;
                case '-':
                    return MINUS;
                default:
                    return NO_TOKEN;
            }
        }

        private static boolean isBlank(byte b) {
            return b == 9 || b == 10 || b == 13 || b == 32;
        }

        private static boolean isLetter(byte b) {
            return b >= 'a' && b <= 'z';
        }

        private static boolean isDigit(byte b) {
            return b >= '0' && b <= '9';
        }
    }

    /** The grammar as states and the TOKENS that lead from one to another. */
    private static final class Grammar {
        static final int START = 0;
        static final int NEW_NAME = 1;
        static final int CLOSE = 2;
        static final int WAY_FROM = 3;
        static final int WAY_TO = 4;
        static final int LAST_INT = 5;
        static final int NEW_TIME = 6;
        static final int OF_OR_CLOSE = 7;
        static final int TIME_PERSON = 8;
        static final int TIME_IN = 9;
        static final int TIME_PLACE = 10;
        static final int NEW_SAY = 11;
        static final int TRUST_OR_COLON = 12;
        static final int TRUST_INT = 13;
        static final int NEW_SURE = 14;
        static final int NEW_ASK = 15;
        static final int BEFORE_SPANS = 16;
        static final int SPAN_X = 17;
        static final int SPAN_KIND = 18;
        static final int AT_LOW = 19;
        static final int SPAN_Y = 20;
        static final int LOW_SIGN = 21;
        static final int LOW_MINUS = 22;
        static final int HIGH_SIGN = 23;
        static final int HIGH_MINUS = 24;
        static final int HIGH = 25;
        static final int SPAN_END = 26;
        static final int OPEN_X = 27;
        static final int OPEN_BEHIND = 28;
        static final int OPEN_Y = 29;
        static final int OPEN_LOW = 30;

        // State, TOKEN, next state.
        private static final int[] STEPS = {
            START, Tokens.WHO, NEW_NAME, START, Tokens.PLACE, NEW_NAME,
            NEW_NAME, Tokens.NAME, CLOSE, CLOSE, Tokens.SEMICOLON, START,
            START, Tokens.WAY, WAY_FROM, WAY_FROM, Tokens.NAME, WAY_TO,
            WAY_TO, Tokens.NAME, LAST_INT, LAST_INT, Tokens.INT, CLOSE,
            START, Tokens.TIME, NEW_TIME, NEW_TIME, Tokens.NAME, OF_OR_CLOSE,
            OF_OR_CLOSE, Tokens.SEMICOLON, START, OF_OR_CLOSE, Tokens.OF, TIME_PERSON,
            TIME_PERSON, Tokens.NAME, TIME_IN, TIME_IN, Tokens.IN, TIME_PLACE,
            TIME_PLACE, Tokens.NAME, CLOSE,
            START, Tokens.SAY, NEW_SAY, NEW_SAY, Tokens.NAME, TRUST_OR_COLON,
            TRUST_OR_COLON, Tokens.COLON, SPAN_X, TRUST_OR_COLON, Tokens.TRUST, TRUST_INT,
            TRUST_INT, Tokens.INT, BEFORE_SPANS, BEFORE_SPANS, Tokens.COLON, SPAN_X,
            START, Tokens.SURE, NEW_SURE, NEW_SURE, Tokens.NAME, BEFORE_SPANS,
            START, Tokens.ASK, NEW_ASK, NEW_ASK, Tokens.NAME, BEFORE_SPANS,
            SPAN_X, Tokens.NAME, SPAN_KIND,
            SPAN_KIND, Tokens.AT, AT_LOW, AT_LOW, Tokens.INT, HIGH,
            SPAN_KIND, Tokens.BEHIND, SPAN_Y, SPAN_Y, Tokens.NAME, LOW_SIGN,
            LOW_SIGN, Tokens.INT, HIGH_SIGN, LOW_SIGN, Tokens.MINUS, LOW_MINUS,
            LOW_MINUS, Tokens.INT, HIGH_SIGN,
            HIGH_SIGN, Tokens.INT, SPAN_END, HIGH_SIGN, Tokens.MINUS, HIGH_MINUS,
            HIGH_MINUS, Tokens.INT, SPAN_END, HIGH, Tokens.INT, SPAN_END,
            SPAN_END, Tokens.OR, SPAN_X, SPAN_END, Tokens.AND, SPAN_X,
            SPAN_END, Tokens.SEMICOLON, START,
            START, Tokens.OPEN, OPEN_X, OPEN_X, Tokens.NAME, OPEN_BEHIND,
            OPEN_BEHIND, Tokens.BEHIND, OPEN_Y, OPEN_Y, Tokens.NAME, OPEN_LOW,
            OPEN_LOW, Tokens.INT, LAST_INT,
            START, Tokens.END, START,
        };

        // How many TELLS a text may begin with each word; say and sure are counted together.
        private static final int[] ROOM = {4, 6, 12, 10, 0, 0, 10, 0, 10, 0, 4, 0, 5, 0, 0};

        private final int[] tells = new int[15];
        private int tell = 0;
        private int alls = 0;
        private int parts = 0;

        void clear() {
            Arrays.fill(tells, 0);
            tell = Tokens.WHO;
        }

        static int follow(int state, int kind) {
            for (int i = 0; i + 2 < STEPS.length; i += 3) {
                if (STEPS[i] == state && STEPS[i + 1] == kind) {
                    return STEPS[i + 2];
                }
            }
            return NONE;
        }

        /** Whether the INT that comes next is below 0: the state alone tells it, so no '-' outlives its INT. */
        static boolean isBehindMinus(int state) {
            return state == LOW_MINUS || state == HIGH_MINUS;
        }

        /** SYNTAX (1), ROOM (2) or 0 of the TOKEN of that number. */
        int faultOf(int state, int kind, int number) {
            boolean joins = kind == Tokens.OR || kind == Tokens.AND;
            if (follow(state, kind) == NONE || (joins && tell == Tokens.ASK)) {
                return 1;
            }
            if (kind == Tokens.END) {
                return 0;
            }
            return number >= MOST_TOKENS || !hasRoom(state, kind) ? 2 : 0;
        }

        private boolean hasRoom(int state, int kind) {
            if (state == START && kind < tells.length) {
                int counted = kind == Tokens.SURE ? Tokens.SAY : kind;
                tell = kind;
                alls = 1;
                parts = 1;
                tells[counted]++;
                return tells[counted] <= ROOM[counted];
            }
            if (kind == Tokens.OR) {
                alls++;
                parts = 1;
            } else if (kind == Tokens.AND) {
                parts++;
            }
            return alls <= MOST_ALLS && parts <= MOST_PARTS;
        }
    }

    /** Reads a tape: its FAULT, or what it tells. */
    private static final class Reader {
        static final int TWICE = 3;
        static final int UNTOLD = 4;
        static final int WRONG = 5;
        static final int MOST_TRUST = 100;

        private final Tokens tokens = new Tokens();
        private final Grammar grammar = new Grammar();
        private final long[] names = new long[MOST_NAMES];
        private final int[] nameKind = new int[MOST_NAMES];
        private final int[] nameNumber = new int[MOST_NAMES];
        private int nameCount = 0;
        private Told into = new Told();
        private int tell = 0;
        private int x = 0;
        private int y = 0;
        private int low = 0;
        int faultPlace = NONE;

        int readTape(byte[] tape, int length) {
            into.clear();
            nameCount = 0;
            tokens.scan(tape, length);
            int fault = syntaxFault();
            if (fault == 0) {
                fault = meaningFault();
            }
            if (fault == 0) {
                into.findWalks();
                into.findMoves();
            }
            return fault;
        }

        /** Hands out what was read; the next text is read into the old one. */
        Told changePlaces(Told old) {
            Told read = into;
            into = old;
            return read;
        }

        private int syntaxFault() {
            grammar.clear();
            int state = Grammar.START;
            for (int i = 0; i <= tokens.count; i++) {
                int fault = grammar.faultOf(state, tokens.kind[i], i);
                if (fault != 0) {
                    faultPlace = tokens.place[i];
                    return fault;
                }
                state = Grammar.follow(state, tokens.kind[i]);
            }
            return 0;
        }

        private int meaningFault() {
            int state = Grammar.START;
            for (int i = 0; i < tokens.count; i++) {
                int kind = tokens.kind[i];
                int fault = kind == Tokens.INT && tokens.value[i] > LAST_MINUTE ? WRONG : 0;
                if (fault == 0) {
                    fault = take(state, kind, tokens.value[i]);
                }
                if (fault != 0) {
                    faultPlace = tokens.place[i];
                    return fault;
                }
                state = Grammar.follow(state, kind);
            }
            return 0;
        }

        private int take(int state, int kind, long value) {
            switch (state) {
                case Grammar.START:
                    tell = kind;
                    return 0;
                case Grammar.NEW_NAME:
                case Grammar.NEW_TIME:
                case Grammar.NEW_SAY:
                case Grammar.NEW_SURE:
                case Grammar.NEW_ASK:
                    return takeNew(value);
                case Grammar.WAY_FROM:
                case Grammar.WAY_TO:
                    return takePath(state, value);
                case Grammar.TIME_PERSON:
                case Grammar.TIME_PLACE:
                    return takeWhere(state, value);
                case Grammar.OPEN_X:
                case Grammar.OPEN_Y:
                    return takeOpen(state, value);
                case Grammar.SPAN_X:
                case Grammar.SPAN_Y:
                    return takeSpanTime(state, value);
                case Grammar.SPAN_END:
                    if (kind == Tokens.OR || kind == Tokens.AND) {
                        into.addPart(kind == Tokens.OR);
                    }
                    return 0;
                case Grammar.TRUST_INT:
                    return takeTrust((int) value);
                default:
                    return takeInt(state, kind, (int) value);
            }
        }

        private int takeNew(long name) {
            for (int i = 0; i < nameCount; i++) {
                if (names[i] == name) {
                    return TWICE;
                }
            }
            int kind = tell == Tokens.SURE ? Tokens.SAY : tell;
            if (nameCount < MOST_NAMES) {
                names[nameCount] = name;
                nameKind[nameCount] = kind;
                nameNumber[nameCount] = numberNew(kind);
                nameCount++;
            }
            return 0;
        }

        /** The number of what is new; ROOM lets no more come, the bounds here keep every row's index within it. */
        private int numberNew(int kind) {
            switch (kind) {
                case Tokens.WHO:
                    into.persons = Math.min(into.persons + 1, MOST_PERSONS);
                    return into.persons - 1;
                case Tokens.PLACE:
                    into.places = Math.min(into.places + 1, MOST_PLACES);
                    return into.places - 1;
                case Tokens.TIME:
                    into.times = Math.min(into.times + 1, MOST_TIMES);
                    return into.times - 1;
                case Tokens.ASK:
                    into.questions = Math.min(into.questions + 1, MOST_QUESTIONS);
                    return into.questions - 1;
                default:
                    into.addSaying(tell == Tokens.SURE);
                    return into.sayings - 1;
            }
        }

        private int find(long name, int kind) {
            for (int i = 0; i < nameCount; i++) {
                if (names[i] == name && nameKind[i] == kind) {
                    return nameNumber[i];
                }
            }
            return NONE;
        }

        private int takePath(int state, long name) {
            int found = find(name, Tokens.PLACE);
            if (found == NONE) {
                return UNTOLD;
            }
            if (state == Grammar.WAY_FROM) {
                x = found;
                return 0;
            }
            y = found;
            return x == y ? WRONG : 0;
        }

        private int takeWhere(int state, long name) {
            boolean isPerson = state == Grammar.TIME_PERSON;
            int found = find(name, isPerson ? Tokens.WHO : Tokens.PLACE);
            if (found == NONE) {
                return UNTOLD;
            }
            into.putLastTime(isPerson ? into.timePerson : into.timePlace, found);
            return 0;
        }

        private int takeOpen(int state, long name) {
            int found = find(name, Tokens.TIME);
            if (found == NONE) {
                return UNTOLD;
            }
            if (state == Grammar.OPEN_X) {
                x = found;
                return into.isOpen(x) ? WRONG : 0;
            }
            y = found;
            if (x == y || into.isOpen(y)) {
                return WRONG;
            }
            for (int t = 0; t < into.times; t++) {
                if (into.opens.y[t] == x) {
                    return WRONG;
                }
            }
            return 0;
        }

        private int takeSpanTime(int state, long name) {
            int found = find(name, Tokens.TIME);
            if (found == NONE) {
                return UNTOLD;
            }
            if (state == Grammar.SPAN_X) {
                x = found;
                y = NONE;
            } else {
                y = found;
            }
            return 0;
        }

        private int takeTrust(int value) {
            if (value == 0 || value > MOST_TRUST) {
                return WRONG;
            }
            into.trustLast(value);
            return 0;
        }

        private int takeInt(int state, int kind, int value) {
            if (kind == Tokens.INT) {
                int signed = Grammar.isBehindMinus(state) ? -value : value;
                if (state == Grammar.LAST_INT) {
                    endPathOrOpen(signed);
                } else if (Grammar.follow(state, kind) == Grammar.SPAN_END) {
                    endSpan(signed);
                } else {
                    low = signed;
                }
            }
            return 0;
        }

        private void endPathOrOpen(int value) {
            if (tell == Tokens.WAY) {
                into.addPath(x, y, value);
            } else {
                into.opens.put(x, x, y);
                into.opens.bound(x, low, value);
            }
        }

        private void endSpan(int high) {
            boolean isAsked = tell == Tokens.ASK;
            Spans spans = isAsked ? into.asked : into.spans;
            int row = isAsked ? into.questions - 1 : into.lastSpan();
            spans.put(row, x, y);
            spans.bound(row, low, high);
        }
    }

    /**
     * By how much each TIME may be behind each other at most, a closed table a level.
     * Node 0 is minute 0, node t + 1 is TIME t: so a span of x itself is one behind node 0.
     */
    private static final class Net {
        private final int[] most;
        private final int[] stead;
        private final int[] nearest;
        private final int[] farthest;
        private int nodes = 1;
        private int area = 1;

        Net(int levels, int widest) {
            most = new int[levels * widest * widest];
            stead = new int[widest];
            nearest = new int[widest];
            farthest = new int[widest];
        }

        private boolean hasLevel(int level) {
            return level >= 0 && (level + 1) * area <= most.length;
        }

        private boolean hasNode(int node) {
            return node >= 0 && node < nodes;
        }

        /** Level 0 for so many nodes, each at any minute. */
        void blank(int count) {
            if (count < 1 || count > stead.length) {
                return;
            }
            nodes = count;
            area = count * count;
            for (int i = 0; i < nodes; i++) {
                stead[i] = i;
                nearest[i] = 0;
                farthest[i] = 0;
                for (int j = 0; j < nodes; j++) {
                    most[i * nodes + j] = i == 0 || i == j ? 0 : LAST_MINUTE;
                }
            }
        }

        /**
         * A node that nobody can choose is near .. far behind another one: what is told of it
         * is then told of that one, so that it holds at the worst distance.
         */
        void loose(int node, int behind, int near, int far) {
            if (hasNode(node) && hasNode(behind)) {
                stead[node] = behind;
                nearest[node] = near;
                farthest[node] = far;
            }
        }

        void copyUp(int level) {
            if (hasLevel(level) && hasLevel(level + 1)) {
                System.arraycopy(most, level * area, most, (level + 1) * area, area);
            }
        }

        int reach(int level, int i, int j) {
            if (!hasLevel(level) || !hasNode(i) || !hasNode(j)) {
                return 0;
            }
            return most[level * area + i * nodes + j];
        }

        /** Node i is at most w behind node j from now on; false: there are no HOURS then. */
        boolean tighten(int level, int i, int j, int w) {
            boolean hasTable = level >= 0 && (level + 1) * area <= most.length;
            if (!hasTable || i < 0 || i >= nodes || j < 0 || j >= nodes) {
                return false;
            }
            if (i == j) {
                return w >= 0;
            }
            int room = w - farthest[i] + nearest[j];
            int base = level * area;
            int later = stead[i];
            int earlier = stead[j];
            int rowOfEarlier = base + earlier * nodes;
            if (most[rowOfEarlier + later] + room < 0) {
                return false;
            }
            if (most[base + later * nodes + earlier] <= room) {
                return true;
            }
            for (int p = 0; p < nodes; p++) {
                int row = base + p * nodes;
                int by = most[row + later] + room;
                // The table is closed: what comes no nearer to the earlier node comes no nearer to any.
                if (by < most[row + earlier]) {
                    tightenRow(row, by, rowOfEarlier);
                }
            }
            return true;
        }

        private void tightenRow(int row, int by, int rowOfEarlier) {
            for (int q = 0; q < nodes; q++) {
                int sum = by + most[rowOfEarlier + q];
                if (sum < most[row + q]) {
                    most[row + q] = sum;
                }
            }
        }
    }

    /** The TRIES and WAYS of GOING THROUGH all. */
    private static final class Book {
        private final int[] tryRow = new int[MOST_TRIES];
        private final int[] sayRow = new int[MOST_TRIES];
        private final long[] moveRow = new long[MOST_TRIES];

        void addTry(int number, int item, int choice, boolean stood) {
            if (number >= 0 && number < MOST_TRIES) {
                tryRow[number] = item << 4 | choice << 1 | (stood ? 1 : 0);
            }
        }

        void addWay(int w, int[] item, int[] chosen, int items) {
            if (w < 0 || w >= MOST_TRIES) {
                return;
            }
            sayRow[w] = 0;
            moveRow[w] = 0;
            for (int k = 0; k < items; k++) {
                if (item[k] < FIRST_MOVE) {
                    sayRow[w] |= chosen[k] << 2 * item[k];
                } else {
                    moveRow[w] |= (long) chosen[k] << item[k] - FIRST_MOVE;
                }
            }
        }

        int choiceOf(int w, int item) {
            if (w < 0 || w >= MOST_TRIES) {
                return 0;
            }
            if (item < FIRST_MOVE) {
                return sayRow[w] >> 2 * item & 3;
            }
            return (int) (moveRow[w] >> item - FIRST_MOVE & 1);
        }

        int tryOf(int i, int what) {
            int one = valueAt(tryRow, i, 0);
            switch (what) {
                case 0:
                    return one >> 4;
                case 1:
                    return one >> 1 & 7;
                case 2:
                    return one & 1;
                default:
                    return NONE;
            }
        }
    }

    /** GOING THROUGH the ITEMS, with a level of the net for each. */
    private static final class Going {
        // Each step is a TRY, or goes back from an ITEM to which a TRY led.
        private static final int MOST_STEPS = 2 * MOST_TRIES + 10;

        final Net net;
        private final boolean isHard;
        private final int[] item;
        private final int[] chosen;
        private Told told;
        private Held held;
        private int built = 0;
        private int widened = 0;
        private int give = 0;
        private int guestPlace = NONE;
        private boolean hasGuest = false;
        int items = 0;
        boolean based = false;
        int tries = 0;
        int found = 0;
        boolean spent = false;
        int guestLeast = 0;
        int guestMost = 0;

        Going(int levels, int times, boolean isHard, Told told, Held held) {
            this.net = new Net(levels + 1, times + 1);
            this.isHard = isHard;
            this.item = new int[levels];
            this.chosen = new int[levels];
            this.told = told;
            this.held = held;
        }

        /** Makes ready to go through the SAYINGS of these bits and all MOVES. */
        void begin(Told nowTold, Held nowHeld, int bits, int guests) {
            told = nowTold;
            held = nowHeld;
            widened = 0;
            give = 0;
            hasGuest = guests > 0;
            layBase(guests);
            items = 0;
            for (int s = 0; s < told.sayings; s++) {
                if ((bits >> s & 1) != 0) {
                    addItem(s);
                }
            }
            for (int k = 0; k < told.moves; k++) {
                addItem(FIRST_MOVE + k);
            }
        }

        private void addItem(int code) {
            if (items < item.length) {
                item[items] = code;
                items++;
            }
        }

        /** What holds always, on level 0. */
        private void layBase(int guests) {
            built = 0;
            net.blank(told.times + 1 + guests);
            based = true;
            Spans opens = told.opens;
            for (int t = 0; t < told.times; t++) {
                if (opens.y[t] == NONE) {
                    continue;
                }
                if (isHard) {
                    net.loose(t + 1, opens.y[t] + 1, opens.low[t], opens.high[t]);
                    based = based && bind(0, t, NONE, 0, LAST_MINUTE);
                } else {
                    based = based && bind(0, t, opens.y[t], opens.low[t], opens.high[t]);
                }
            }
            Spans more = held.more;
            for (int i = 0; i < held.moreCount; i++) {
                based = based && bind(0, more.x[i], more.y[i], more.low[i], more.high[i]);
            }
        }

        /** One more TIME; its number is behind all that are told. */
        void host(int person, int place, int a, int b) {
            guestPlace = place;
            guestLeast = LAST_MINUTE;
            guestMost = 0;
            based = based && bind(0, told.times, NONE, a, b);
            for (int t = 0; t < told.times; t++) {
                if (told.timePerson[t] == person && told.timePlace[t] != place) {
                    addItem(FIRST_GUEST + t);
                }
            }
        }

        void widen(int bits, int minutes) {
            widened = bits;
            give = minutes;
        }

        boolean bind(int level, int x, int y, int low, int high) {
            return net.tighten(level, x + 1, y + 1, high) && net.tighten(level, y + 1, x + 1, -low);
        }

        private int choicesOf(int code) {
            if (code < FIRST_MOVE) {
                return valueAt(told.choices, code, 0);
            }
            return walkOf(code) < 0 ? 0 : 2;
        }

        private int walkOf(int code) {
            if (code >= FIRST_GUEST) {
                return told.walkBetween(valueAt(told.timePlace, code - FIRST_GUEST, NONE), guestPlace);
            }
            return valueAt(told.moveWalk, code - FIRST_MOVE, NOTHING);
        }

        /** The level behind has this one's spans and those of a choice; false: no HOURS. */
        boolean push(int level, int code, int choice) {
            net.copyUp(level);
            if (code >= FIRST_MOVE) {
                return pushMove(level + 1, code, choice);
            }
            Spans spans = told.spans;
            int wider = (widened >> code & 1) * give;
            int row = told.firstSpan(code, choice);
            int end = row + told.partsOf(code, choice);
            if (row < 0 || end > spans.x.length) {
                return false;
            }
            for (int i = row; i < end; i++) {
                if (!bind(level + 1, spans.x[i], spans.y[i], spans.low[i] - wider, spans.high[i] + wider)) {
                    return false;
                }
            }
            return true;
        }

        private boolean pushMove(int level, int code, int choice) {
            int minutes = walkOf(code);
            int lesser = code - FIRST_GUEST;
            int greater = told.times;
            if (code < FIRST_GUEST) {
                lesser = valueAt(told.moveLesser, code - FIRST_MOVE, NONE);
                greater = valueAt(told.moveGreater, code - FIRST_MOVE, NONE);
            }
            if (choice == 0) {
                return net.tighten(level, lesser + 1, greater + 1, -minutes);
            }
            return net.tighten(level, greater + 1, lesser + 1, -minutes);
        }

        /** GOING THROUGH, up to the first WAY alone or to all. */
        void goThrough(Book book, boolean toFirst) {
            tries = 0;
            found = 0;
            spent = false;
            built = 0;
            if (!based) {
                return;
            }
            if (items == 0) {
                noteWay(book);
                return;
            }
            int level = 0;
            chosen[0] = NONE;
            for (int step = 0; step < MOST_STEPS && level >= 0; step++) {
                chosen[level]++;
                if (chosen[level] >= choicesOf(item[level])) {
                    level--;
                    continue;
                }
                tries++;
                if (tries > MOST_TRIES) {
                    spent = true;
                    return;
                }
                boolean stood = push(level, item[level], chosen[level]);
                if (book != null) {
                    book.addTry(tries - 1, item[level], chosen[level], stood);
                }
                if (stood && level < items - 1) {
                    level++;
                    chosen[level] = NONE;
                } else if (stood) {
                    noteWay(book);
                    if (toFirst) {
                        return;
                    }
                }
            }
        }

        private void noteWay(Book book) {
            if (book != null) {
                book.addWay(found, item, chosen, items);
            }
            if (hasGuest) {
                guestLeast = Math.min(guestLeast, -net.reach(items, 0, told.times + 1));
                guestMost = Math.max(guestMost, net.reach(items, told.times + 1, 0));
            }
            found++;
        }

        /**
         * Brings the levels to a WAY; false: there are no HOURS (in a hard going).
         * WAYS stand as they were found, so one shares most of its levels with the one ahead.
         */
        boolean bring(Book book, int w) {
            for (int k = 0; k < items; k++) {
                int choice = book.choiceOf(w, item[k]);
                if (k < built && chosen[k] == choice) {
                    continue;
                }
                built = k;
                chosen[k] = choice;
                if (!push(k, item[k], choice)) {
                    return false;
                }
                built = k + 1;
            }
            return true;
        }

        int minute(int level, int time, boolean most) {
            return distance(level, time, NONE, most);
        }

        int distance(int level, int x, int y, boolean most) {
            return most ? net.reach(level, x + 1, y + 1) : -net.reach(level, y + 1, x + 1);
        }

        /** Whether there are HOURS with these; the net is closed, so pairs tell it. */
        boolean takes(int level, int[] hours) {
            for (int t = 0; t < told.times; t++) {
                if (hours[t] == NONE) {
                    continue;
                }
                if (minuteWith(level, t, hours, true) < hours[t] || minuteWith(level, t, hours, false) > hours[t]) {
                    return false;
                }
            }
            return true;
        }

        int minuteWith(int level, int time, int[] hours, boolean most) {
            int end = minute(level, time, most);
            for (int t = 0; t < told.times; t++) {
                if (hours[t] != NONE) {
                    int minute = hours[t] + distance(level, time, t, most);
                    end = most ? Math.min(end, minute) : Math.max(end, minute);
                }
            }
            return end;
        }
    }

    /** QUARRELS, GIVING UPS and THE RING of what is PICKED. */
    private static final class Quarrelling {
        private static final int ALL_SETS = 1 << MOST_SAYINGS;
        // No more sets of ten can stand without one being within another.
        private static final int MOST_SETS = 252;

        private final Going going;
        private final boolean[] hasWay = new boolean[ALL_SETS];
        final int[] quarrelRow = new int[MOST_SETS];
        final int[] givingRow = new int[MOST_SETS];
        int quarrelCount = 0;
        int givingCount = 0;
        final int[] ringRow = new int[OWN_ITEMS];
        int ringCount = 0;
        boolean fresh = false;
        boolean ringFresh = false;
        private boolean spent = false;
        private boolean tight = false;

        Quarrelling(Going going) {
            this.going = going;
        }

        /** Goes through all sets if that is not known yet; false: one is SPENT. */
        boolean isKnown(Told told, Held held) {
            if (!fresh) {
                fresh = true;
                quarrelCount = 0;
                givingCount = 0;
                int whole = told.allBits() & ~told.sureBits & ~held.doubted;
                spent = !goThroughAll(told, held, whole);
                for (int size = 0; size <= MOST_SAYINGS && !spent; size++) {
                    listSets(whole, size);
                }
            }
            return !spent;
        }

        private boolean goThroughAll(Told told, Held held, int whole) {
            for (int bits = 0; bits < ALL_SETS; bits++) {
                if ((bits & ~whole) != 0) {
                    continue;
                }
                going.begin(told, held, bits | told.sureBits, 0);
                going.goThrough(null, true);
                if (going.spent) {
                    return false;
                }
                hasWay[bits] = going.found > 0;
            }
            return true;
        }

        private void listSets(int whole, int size) {
            for (int bits = 0; bits < ALL_SETS; bits++) {
                if ((bits & ~whole) != 0 || Integer.bitCount(bits) != size) {
                    continue;
                }
                if (isQuarrel(bits) && quarrelCount < MOST_SETS) {
                    quarrelRow[quarrelCount] = bits;
                    quarrelCount++;
                }
                if (isGivingUp(whole, bits) && givingCount < MOST_SETS) {
                    givingRow[givingCount] = bits;
                    givingCount++;
                }
            }
        }

        private boolean isQuarrel(int bits) {
            if (hasWay[bits]) {
                return false;
            }
            for (int s = 0; s < MOST_SAYINGS; s++) {
                if ((bits >> s & 1) != 0 && !hasWay[bits & ~(1 << s)]) {
                    return false;
                }
            }
            return true;
        }

        private boolean isGivingUp(int whole, int bits) {
            int rest = whole & ~bits;
            if (!hasWay[rest]) {
                return false;
            }
            for (int s = 0; s < MOST_SAYINGS; s++) {
                if ((bits >> s & 1) != 0 && hasWay[rest | 1 << s]) {
                    return false;
                }
            }
            return true;
        }

        /** Whether there are no HOURS with all that is PICKED; THE RING is known then. */
        boolean isTight(Told told, Held held) {
            if (!ringFresh) {
                ringFresh = true;
                going.begin(told, held, 0, 0);
                tight = !holdTogether(held, 0L);
                ringCount = 0;
                if (tight) {
                    listRing(held);
                }
            }
            return tight;
        }

        private boolean holdTogether(Held held, long leftOut) {
            boolean together = going.based;
            int level = 0;
            for (int k = 0; k < OWN_ITEMS && together; k++) {
                if (held.picks[k] != NONE && (leftOut >> k & 1L) == 0) {
                    together = going.push(level, itemOf(k), held.picks[k]);
                    level++;
                }
            }
            return together;
        }

        private static int itemOf(int k) {
            return k < MOST_SAYINGS ? k : k - MOST_SAYINGS + FIRST_MOVE;
        }

        private void listRing(Held held) {
            long leftOut = 0L;
            for (int k = 0; k < OWN_ITEMS; k++) {
                if (held.picks[k] == NONE) {
                    continue;
                }
                if (holdTogether(held, leftOut | 1L << k)) {
                    ringRow[ringCount] = itemOf(k);
                    ringCount++;
                } else {
                    leftOut |= 1L << k;
                }
            }
        }

        int cheapestGiving(Told told) {
            int best = NONE;
            int least = 0;
            for (int i = 0; i < givingCount; i++) {
                int sum = told.trustOf(givingRow[i]);
                if (best == NONE || sum < least) {
                    best = i;
                    least = sum;
                }
            }
            return best;
        }
    }

    /** QUESTIONS, over the WAYS that were found. */
    private static final class Asking {
        // A state of answers: bit q: QUESTION q was answered yes; bit NO_BIT + q: no.
        private static final int NO_BIT = MOST_QUESTIONS;
        private static final int STATES = 1 << 2 * MOST_QUESTIONS;
        private static final int TOO_MANY = MOST_QUESTIONS + 1;
        // Whole answers are numbered by their bits of yes; those with a yes to QUESTION q.
        private static final int[] WITH_YES = {0xAAAAAAAA, 0xCCCCCCCC, 0xF0F0F0F0, 0xFF00FF00, 0xFFFF0000};

        private final Going going;
        private final Book book;
        private final int[] wholeAnswers = new int[MOST_PLANNED];
        private final int[] leftRow = new int[STATES];
        final int[] needed = new int[STATES];
        boolean fresh = false;

        Asking(Going going, Book book) {
            this.going = going;
            this.book = book;
        }

        int answered(Told told, int q, boolean yes) {
            int count = 0;
            for (int w = 0; w < going.found; w++) {
                going.bring(book, w);
                int least = going.distance(going.items, told.asked.x[q], told.asked.y[q], false);
                int most = going.distance(going.items, told.asked.x[q], told.asked.y[q], true);
                int low = told.asked.low[q];
                int high = told.asked.high[q];
                boolean within = low <= high && least <= high && most >= low;
                boolean without = least < low || most > high;
                if (yes ? within : without) {
                    count++;
                }
            }
            return count;
        }

        int leftWith(Told told, int yes, int no) {
            int count = 0;
            for (int w = 0; w < going.found; w++) {
                going.bring(book, w);
                if (isLeft(told, 0, going.items, yes, no)) {
                    count++;
                }
            }
            return count;
        }

        /** Whether there are HOURS on this level with the answers from QUESTION q on. */
        private boolean isLeft(Told told, int q, int level, int yes, int no) {
            if (q >= told.questions || q >= MOST_QUESTIONS) {
                return true;
            }
            if ((yes >> q & 1) != 0) {
                return answer(told, q, level, 0) && isLeft(told, q + 1, level + 1, yes, no);
            }
            if ((no >> q & 1) == 0) {
                return isLeft(told, q + 1, level, yes, no);
            }
            if (answer(told, q, level, 1) && isLeft(told, q + 1, level + 1, yes, no)) {
                return true;
            }
            return answer(told, q, level, 2) && isLeft(told, q + 1, level + 1, yes, no);
        }

        /** The level behind is this one with the SPAN (0), below it (1) or above it (2). */
        private boolean answer(Told told, int q, int level, int how) {
            int x = told.asked.x[q];
            int y = told.asked.y[q];
            going.net.copyUp(level);
            if (how == 0) {
                return going.bind(level + 1, x, y, told.asked.low[q], told.asked.high[q]);
            }
            if (how == 1) {
                return going.net.tighten(level + 1, x + 1, y + 1, told.asked.low[q] - 1);
            }
            return going.net.tighten(level + 1, y + 1, x + 1, -told.asked.high[q] - 1);
        }

        /** How many QUESTIONS are needed in each state of answers so that at most m WAYS are LEFT. */
        void workOut(Told told, int m) {
            for (int state = STATES - 1; state >= 0; state--) {
                int least = leftRow[state] <= m ? 0 : TOO_MANY;
                for (int q = 0; q < told.questions && least > 0; q++) {
                    least = Math.min(least, neededWith(state, q));
                }
                needed[state] = least;
            }
        }

        /** As above if QUESTION q is asked now; one asked already is no help. */
        private int neededWith(int state, int q) {
            int yes = 1 << q;
            int no = 1 << NO_BIT + q;
            if ((state & (yes | no)) != 0) {
                return TOO_MANY;
            }
            return Math.min(TOO_MANY, 1 + Math.max(needed[state | yes], needed[state | no]));
        }

        int firstQuestion(Told told) {
            for (int q = 0; q < told.questions && needed[0] > 0; q++) {
                if (neededWith(0, q) == needed[0]) {
                    return q;
                }
            }
            return NOTHING;
        }

        /** HOURS answer all QUESTIONS in one way, so whole answers tell what is LEFT in each state. */
        void countStates(Told told) {
            if (fresh) {
                return;
            }
            fresh = true;
            int ways = Math.min(going.found, MOST_PLANNED);
            for (int w = 0; w < ways; w++) {
                going.bring(book, w);
                wholeAnswers[w] = 0;
                spread(told, w, 0, going.items, -1);
            }
            for (int state = 0; state < STATES; state++) {
                leftRow[state] = countLeft(ways, answersOf(told, state));
            }
        }

        private static int answersOf(Told told, int state) {
            int answers = -1;
            for (int q = 0; q < told.questions; q++) {
                if ((state >> q & 1) != 0) {
                    answers &= WITH_YES[q];
                }
                if ((state >> NO_BIT + q & 1) != 0) {
                    answers &= ~WITH_YES[q];
                }
            }
            return answers;
        }

        private int countLeft(int ways, int answers) {
            int count = 0;
            for (int w = 0; w < ways && answers != 0; w++) {
                if ((wholeAnswers[w] & answers) != 0) {
                    count++;
                }
            }
            return count;
        }

        /** Marks those of the answers for which this level has HOURS; all are alike up to QUESTION q. */
        private void spread(Told told, int w, int q, int level, int answers) {
            if ((answers & ~wholeAnswers[w]) == 0) {
                return;
            }
            if (q >= told.questions || q >= MOST_QUESTIONS) {
                wholeAnswers[w] |= answers;
                return;
            }
            for (int how = 0; how < 3; how++) {
                if (answer(told, q, level, how)) {
                    int kind = how == 0 ? WITH_YES[q] : ~WITH_YES[q];
                    spread(told, w, q + 1, level + 1, answers & kind);
                }
            }
        }
    }
}
