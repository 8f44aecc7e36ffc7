/** Each promise of the document by itself: ordinary calls, the edges it names, wrong arguments. Answers by hand. */
public final class PromiseTest {
    private static final int LOW = Integer.MIN_VALUE;
    private static final int HIGH = Integer.MAX_VALUE;
    /** Two PLACES twenty minutes apart, one PERSON with an act in each: two WAYS; x is in one PLACE, y in the other. */
    private static final String TWO_WAYS =
        "who ann; place inn; place mill; way inn mill 20; time x of ann in inn; time y of ann in mill; time bell;"
        + "sure rang: bell at 600 600; say a trust 7: x behind bell -60 -30 or x behind bell 10 50;"
        + "say b: y at 590 610; ask q: x at 0 600; ask r: y behind bell 0 1440;";
    /** All WAYS are 3 x 3 x 3 = 27 and TRIES 3 + 9 + 27 = 39. */
    private static final String MANY =
        "time x; time y; time z; say a: x at 0 9 or x at 10 19 or x at 20 29; say b: y at 0 9 or y at 10 19 or y at 20 29;"
        + "say c: z at 0 9 or z at 10 19 or z at 20 29; ask p: x at 0 9; ask q: x at 10 19; ask r: y at 0 9; ask s: z at 5 5;";
    /** Each of ten SAYINGS has two choices that never quarrel: 2 + 4 + .. + 1024 TRIES, too many. */
    private static final String SPENT = spentText(10);

    private static int wrong = 0;
    private static int promise = 0;

    public static void main(String[] args) {
        newObject();
        feedAndBack();
        readRight();
        readSyntax();
        readRoom();
        readMeaning();
        readChangesNothing();
        noMinusOutlivesItsInt();
        doubts();
        walksAndMoves();
        waysAndChoices();
        hoursAndGaps();
        endsCanForced();
        setsAndBears();
        breaking();
        quarrelling();
        givingUp();
        picking();
        rings();
        coulds();
        beens();
        asking();
        plans();
        mores();
        tries();
        slacks();
        drawing();
        gives();
        keeping();
        counts();
        spentAnswers();
        numbersBelowZeroWhileSpent();
        largest();
        System.out.println(wrong == 0 ? "all promises hold" : wrong + " answers are wrong");
        System.exit(wrong == 0 ? 0 : 1);
    }

    private static void due(String call, long got, long want) {
        if (got != want) {
            wrong++;
            System.out.println("promise " + promise + ": " + call + " answered " + got + ", due is " + want);
        }
    }

    private static void due(String call, boolean got, boolean want) {
        due(call, got ? 1 : 0, want ? 1 : 0);
    }

    private static NightHours told(String text) {
        NightHours n = new NightHours();
        fault(n, text, 0, -1);
        return n;
    }

    private static void fault(NightHours n, String text, int fault, int place) {
        Tape.put(n, text);
        due("count(7) ahead of: " + text, n.count(7), text.length());
        due("read() of: " + text, n.read(), fault);
        due("place() of: " + text, n.place(), place);
        due("count(7) behind: " + text, n.count(7), 0);
    }

    /** A FAULT at the first place where the mark stands. */
    private static void faultAt(String text, String mark, int fault) {
        fault(new NightHours(), text, fault, text.indexOf(mark));
    }

    private static String spentText(int sayings) {
        StringBuilder b = new StringBuilder("time x; who p; place q;");
        for (int i = 0; i < sayings; i++) {
            b.append("say ").append((char) ('a' + i)).append("a: x at 0 9 or x at 0 8;");
        }
        return b.append("ask k: x at 0 5;").toString();
    }

    private static String times(String part, int n) {
        StringBuilder b = new StringBuilder();
        for (int i = 0; i < n; i++) {
            b.append(part.replace("#", "" + (char) ('a' + i)));
        }
        return b.toString();
    }

    private static void newObject() {
        promise = 1;
        NightHours n = new NightHours();
        for (int what = 0; what <= 7; what++) {
            due("count(" + what + ")", n.count(what), 0);
        }
        due("ways()", n.ways(), 1);
        due("place()", n.place(), -1);
        due("hour(0, 0, true)", n.hour(0, 0, true), -1);
        due("gap(0, 0, 0, true)", n.gap(0, 0, 0, true), -10000);
        due("plan(0)", n.plan(0), -2);
        due("plan(1)", n.plan(1), 0);
        due("NONE", NightHours.NONE, -1);
        NightHours other = new NightHours();
        Tape.read(other, "who a;");
        due("count(0) of one while another is told", n.count(0), 0);
    }

    private static void feedAndBack() {
        promise = 2;
        NightHours n = new NightHours();
        due("feed", n.feed(0x77686f20, 0x613b7768, 0x6f20623b, 0x20202020, 0x2020203b), 20);
        promise = 3;
        due("back(0)", n.back(0), 20);
        due("back(-1)", n.back(-1), -1);
        due("back(21)", n.back(21), -1);
        due("back(LOW)", n.back(LOW), -1);
        due("back(HIGH)", n.back(HIGH), -1);
        due("count(7)", n.count(7), 20);
        due("back(1)", n.back(1), 19);
        promise = 2;
        due("read()", n.read(), 0);
        due("count(0)", n.count(0), 2);
        for (int i = 1; i <= 100; i++) {
            due("feed", n.feed(0x20202020, 0x20202020, 0x20202020, 0x20202020, 0x20202020), 20 * i);
        }
        due("feed beyond 2000", n.feed(0x78787878, 0, 0, 0, 0), -1);
        due("count(7)", n.count(7), 2000);
        due("back(19)", n.back(19), 1981);
        due("feed beyond 2000", n.feed(0x78787878, 0, 0, 0, 0), -1);
        due("back(1)", n.back(1), 1980);
        due("feed up to 2000", n.feed(0x20202020, 0x20202020, 0x20202020, 0x20202020, 0x20202020), 2000);
        promise = 4;
        due("read() of blanks", n.read(), 0);
        due("count(0)", n.count(0), 0);
        promise = 3;
        due("back(1) of an empty tape", n.back(1), -1);
        due("back(0) of an empty tape", n.back(0), 0);
        promise = 2;
        n.feed(0xff00ff00, -1, 0, 0, 0);
        due("read() of odd bytes", n.read(), 1);
        due("place()", n.place(), 0);
    }

    private static void readRight() {
        promise = 4;
        fault(new NightHours(), "", 0, -1);
        fault(new NightHours(), " \t\n\r ", 0, -1);
        NightHours n = told("who\ta;place\r\nb;place c;way b c0012;time d of a in b;time abcdefgh;say e trust 100:d at 0 1440"
            + " or d behind d-5 -0 and abcdefgh behind d- 3 4;sure f:d at 5 4;open d behind abcdefgh 0 1440;ask g:d behind d 1 2;");
        int[] counts = {1, 2, 2, 2, 1, 0};
        for (int what = 0; what < counts.length; what++) {
            due("count(" + what + ")", n.count(what), counts[what]);
        }
        due("walk", n.walk(1, 0), 12);
        due("count(10)", n.count(10), 2);
        due("count(11)", n.count(11), 1);
        told("who trusts; place off; time wh; time behinds; say orr: wh at 1 1;");
        told(times("who p#;", 4) + times("place q#;", 6) + times("way qa qb 1;", 12) + times("time t#;", 10)
            + times("say s#: ta at 1 1 and ta at 1 1 and ta at 1 1 or ta at 1 1 or ta at 1 1 or ta at 1 1;", 5) + times("sure u#: ta at 1 1;", 5)
            + times("open t# behind tj 1 2;", 4) + times("ask k#: ta at 1 1;", 5));
    }

    private static void readSyntax() {
        promise = 5;
        String[] ends = {"who", "who a", "who a ", "place a;place b;way", "way a", "way a b", "way a b 5", "time", "time x of", "time x of a",
            "time x of a in", "say", "say s trust", "say s:", "say s: x", "say s: x at", "say s: x at 5", "say s: x at 5 6", "say s: x behind",
            "say s: x behind y -", "say s: x behind y 5", "say s: x behind y 5 -", "sure s", "open x", "open x behind y 1", "ask q", "ask q:",
            "say s: x at 1 2 or", "say s: x at 1 2 and"};
        for (String text : ends) {
            fault(new NightHours(), text, 1, text.length());
        }
        faultAt("who who;", " who", 1, 1);
        faultAt("who abcdefghi;", "abcdefghi", 1);
        faultAt("who a; place b; way b b 12345;", "12345", 1);
        faultAt("who A;", "A", 1);
        faultAt("who a.", ".", 1);
        faultAt("who a$;", "$", 1);
        faultAt("who a;;", ";;", 1, 1);
        faultAt("who 1;", "1", 1);
        faultAt("time x; say s: x at -5 6;", "-", 1);
        faultAt("time x; time y; open x behind y -1 2;", "-", 1);
        faultAt("time x; sure s trust 5: x at 1 2;", "trust", 1);
        faultAt("time x; ask q: x at 1 2 or x at 1 2;", "or x", 1);
        faultAt("time x; ask q: x at 1 2 and x at 1 2;", "and", 1);
        faultAt("time x of a;", ";", 1);
        faultAt("time x; say s trust -5: x at 1 2;", "-", 1);
        faultAt("time x; say s: x behind x --5 2;", "-5", 1);
        faultAt("x;", "x", 1);
        faultAt("say s: x after y 1 2;", "after", 1);
        fault(new NightHours(), "who a; \u00e9", 1, 7);
        // An earlier place is first, whatever is wrong behind it.
        faultAt("who a; who a; place ;", " ;", 1, 1);
    }

    private static void faultAt(String text, String mark, int fault, int behind) {
        fault(new NightHours(), text, fault, text.indexOf(mark) + behind);
    }

    private static void readRoom() {
        promise = 5;
        String base = "time tt; place pp; place qq;";
        String[][] tells = {{"who p#;", "4"}, {"say s#: tt at 1 1;", "10"}, {"sure s#: tt at 1 1;", "10"}, {"ask s#: tt at 1 1;", "5"}, {"way pp qq 1;", "12"}};
        for (String[] t : tells) {
            String text = base + times(t[0], Integer.parseInt(t[1]));
            fault(new NightHours(), text, 0, -1);
            fault(new NightHours(), text + t[0].replace('#', 'z') + "?", 2, text.length());
        }
        String places = times("place p#;", 6);
        fault(new NightHours(), places + "place pa;", 2, places.length());
        String nights = times("time t#;", 10);
        fault(new NightHours(), nights + " time t", 2, nights.length() + 1);
        String opens = nights + times("open t# behind tj 1 1;", 4);
        fault(new NightHours(), opens + "open te behind tj 1 1;", 2, opens.length());
        String mixed = base + times("say s#: tt at 1 1;", 6) + times("sure u#: tt at 1 1;", 4);
        fault(new NightHours(), mixed + "say x: tt at 1 1;", 2, mixed.length());
        fault(new NightHours(), mixed + "sure x: tt at 1 1;", 2, mixed.length());
        String alls = base + "say s: tt at 1 1 or tt at 1 1 or tt at 1 1 or tt at 1 1";
        fault(new NightHours(), alls + ";", 0, -1);
        fault(new NightHours(), alls + " or ?", 2, alls.length() + 1);
        String parts = base + "say s: tt at 1 1 or tt at 1 1 and tt at 1 1 and tt at 1 1";
        fault(new NightHours(), parts + " or tt at 1 1 and tt at 1 1;", 0, -1);
        fault(new NightHours(), parts + " and tt at 1 1;", 2, parts.length() + 1);
        tokensAndRoom();
    }

    private static void tokensAndRoom() {
        // A SAYING of twelve spans has 3 + 48 + 11 (or, and) + 1 = 63 TOKENS.
        String say = "say s#:t at 1 1 and t at 1 1 and t at 1 1 or t at 1 1 and t at 1 1 and t at 1 1 or t at 1 1 and t at 1 1 and t at 1 1"
            + " or t at 1 1 and t at 1 1 and t at 1 1;";
        // 3 + 8 * 63 = 507: the 501st TOKEN is within the eighth.
        String text = "time t;" + times(say, 8);
        int at = 0;
        int count = 0;
        while (count < 501) {
            while (text.charAt(at) == ' ') {
                at++;
            }
            int start = at;
            char c = text.charAt(at);
            while (Character.isLetter(c) && Character.isLetter(text.charAt(at))) {
                at++;
            }
            while (Character.isDigit(c) && Character.isDigit(text.charAt(at))) {
                at++;
            }
            at = Math.max(at, start + 1);
            count++;
            if (count == 500) {
                // What is none is SYNTAX, the 501st TOKEN or not.
                fault(new NightHours(), text.substring(0, at) + " ?", 1, at + 1);
                fault(new NightHours(), text.substring(0, at), 1, at);
            }
            if (count == 501) {
                fault(new NightHours(), text, 2, start);
            }
        }
        // 2 x 3 + 7 x 63 + 4 x 8 + 4 x 3 + 3 x 3 are 500.
        String exact = "time t;time u;" + times(say, 7) + times("ask k#:t at 1 1;", 4) + times("who p#;", 4) + times("place q#;", 3);
        due("TOKENS of the exact text", PlainNight.tokenize(exact).size() - 1, 500);
        fault(new NightHours(), exact, 0, -1);
        fault(new NightHours(), exact + " who", 2, exact.length() + 1);
        fault(new NightHours(), exact + " at", 1, exact.length() + 1);
    }

    private static void readMeaning() {
        promise = 5;
        fault(new NightHours(), "who a; place b; time a;", 3, 21);
        faultAt("who a; place b; who c; place a ;", "a ;", 3);
        faultAt("time x; say s: x at 1 1; ask s : x at 1 1;", "s :", 3);
        faultAt("time x; say s: x at 1 1; sure x : x at 1 1;", "x :", 3);
        faultAt("place a; way a zz 5;", "zz", 4);
        faultAt("place a; way zz a 5;", "zz", 4);
        faultAt("who a; place b; time x of b in b;", "b in", 4);
        faultAt("who a; place b; time x of a in  a ;", "a ;", 4);
        faultAt("time x; say s: s at 1 1;", "s at", 4);
        faultAt("time x; say s: x behind yy 1 1; time yy;", "yy", 4);
        faultAt("time x; ask s: yy at 1 1;", "yy", 4);
        faultAt("time x; open yy behind x 1 1;", "yy", 4);
        faultAt("time x; open x behind yy 1 1;", "yy", 4);
        faultAt("place a; place b; way a b 1441;", "1441", 5);
        faultAt("time x; say s trust 101: x at 1 1;", "101", 5);
        faultAt("time x; say s trust 0: x at 1 1;", "0", 5);
        faultAt("time x; say s trust 0000: x at 1 1;", "0000", 5);
        faultAt("time x; say s: x at 1441 1;", "1441", 5);
        faultAt("time x; say s: x at 1 1441;", "1441", 5);
        faultAt("time x; say s: x behind x - 1441 1;", "1441", 5);
        faultAt("time x; say s: x behind x - 1440 -9999;", "9999", 5);
        faultAt("time x; time y; open x behind y 1 1441;", "1441", 5);
        faultAt("time x; time y; open x behind y 2000 1;", "2000", 5);
        faultAt("place aa; way aa  aa 2000;", " aa 2000", 5, 1);
        opensWrong();
        // Meaning is looked at only in a text without SYNTAX and ROOM faults.
        faultAt("who a; who a; ?", "?", 1);
        // Of one place the least; the first by its place.
        faultAt("place a; way a a 5; who a;", "a 5", 5);
        faultAt("time x; time y; time z; open x behind y 1 2; open y behind qq 1 2;", "qq", 4);
    }

    private static void opensWrong() {
        String base = "time x; time y; time z; time u; ";
        fault(new NightHours(), base + "open x behind y 1 2; open z behind y 1 2;", 0, -1);
        faultAt(base + "open x behind y 1 2; open  x behind z 1 2;", " x behind z", 5, 1);
        faultAt(base + "open x behind  x 1 2;", " x 1", 5, 1);
        faultAt(base + "open x behind y 1 2; open z behind  x 1 2;", " x 1 2", 5, 1);
        faultAt(base + "open x behind y 1 2; open y behind  z 1 2;", " z 1 2", 5, 1);
        faultAt(base + "open x behind y 1 2; open z behind y 2 1; open y behind  u 1 2;", " u 1 2", 5, 1);
        fault(new NightHours(), base + "open x behind y 1 2; open z behind u 1 2;", 0, -1);
    }

    private static void readChangesNothing() {
        promise = 4;
        NightHours n = told(TWO_WAYS);
        n.doubt(1, true);
        n.set(0, 500);
        n.set(2, 600);
        n.pick(2, 0);
        n.more(0, -1, 5, 4);
        fault(n, "who a; who a;", 3, 11);
        due("count(2)", n.count(2), 3);
        due("choices are DOUBTED still", n.forced(1), -1);
        due("hours are SET still", n.bears(1), -2);
        due("MORE is there", n.ways(), 0);
        due("PICKED is", n.stands(), 0);
        fault(n, TWO_WAYS, 0, -1);
        due("nothing is DOUBTED", n.forced(2), 0);
        due("nothing is DOUBTED", n.choice(0, 1), 0);
        due("nothing is SET", n.bears(1), -4);
        due("nothing is MORE", n.ways(), 2);
        due("fewer()", n.fewer(), -1);
        n.pick(0, 0);
        n.pick(1, 0);
        n.more(0, -1, 1000, 1000);
        due("stands()", n.stands(), 0);
        fault(n, TWO_WAYS, 0, -1);
        due("nothing is PICKED", n.stands(), 1);
        n.more(0, -1, 1000, 1000);
        due("nothing is PICKED", n.stands(), 1);
        fault(n, "", 0, -1);
        due("count(2)", n.count(2), 0);
        due("ways()", n.ways(), 1);
    }

    /** A '-' is of the INT behind it alone, even if the text is refused for that INT. */
    private static void noMinusOutlivesItsInt() {
        promise = 4;
        String low = "time x;say a:x behind x -1441 5;";
        String high = "time x;say a:x behind x 0 -1441;";
        for (String refused : new String[] {low, high, low.replace("say", "sure"), high.replace("say", "ask")}) {
            NightHours n = new NightHours();
            fault(n, refused, 5, refused.indexOf("1441"));
            fault(n, "place a;place b;way a b 5;", 0, -1);
            due("walk(0, 1) behind: " + refused, n.walk(0, 1), 5);
            fault(n, refused, 5, refused.indexOf("1441"));
            due("walk(0, 1) as ahead of: " + refused, n.walk(0, 1), 5);
            fault(n, "time x;say a:x at 5 9;", 0, -1);
            due("hour(0, 0, false) behind: " + refused, n.hour(0, 0, false), 5);
            fault(n, refused, 5, refused.indexOf("1441"));
            fault(n, "time x;time y;open x behind y 5 9;", 0, -1);
            due("gap(0, 0, 1, false) behind: " + refused, n.gap(0, 0, 1, false), 5);
            due("gap(0, 0, 1, true) behind: " + refused, n.gap(0, 0, 1, true), 9);
            fault(n, refused, 5, refused.indexOf("1441"));
            fault(n, "time x;time y;say a:x behind y 5 9 and x behind y -7 6;say b trust 8:x behind y 5 9;", 0, -1);
            due("gap(0, 0, 1, false) behind: " + refused, n.gap(0, 0, 1, false), 5);
            due("gap(0, 0, 1, true) behind: " + refused, n.gap(0, 0, 1, true), 6);
        }
        NightHours n = told("time x;time y;say a:x behind y -9 5;");
        due("gap(0, 0, 1, false), '-' ahead of the low INT alone", n.gap(0, 0, 1, false), -9);
        due("gap(0, 0, 1, true), '-' ahead of the low INT alone", n.gap(0, 0, 1, true), 5);
        n = told("time x;time y;say a:x behind y -9 -5;sure b:x at 4 1440;");
        due("gap(0, 0, 1, false), '-' ahead of both", n.gap(0, 0, 1, false), -9);
        due("gap(0, 0, 1, true), '-' ahead of both", n.gap(0, 0, 1, true), -5);
        due("hour(0, 0, false), the INT behind these", n.hour(0, 0, false), 4);
    }

    private static void doubts() {
        promise = 6;
        NightHours n = told(TWO_WAYS);
        due("doubt of a sure", n.doubt(0, true), false);
        due("doubt of a sure", n.doubt(0, false), false);
        due("doubt(3)", n.doubt(3, true), false);
        due("doubt(-1)", n.doubt(-1, true), false);
        due("doubt(HIGH)", n.doubt(HIGH, true), false);
        due("doubt(LOW)", n.doubt(LOW, true), false);
        due("doubt(1, false)", n.doubt(1, false), true);
        due("doubt(2, true)", n.doubt(2, true), true);
        due("doubt(2, true) again", n.doubt(2, true), true);
        due("hour of y without b", n.hour(0, 1, false), 560);
        due("hour of y without b", n.hour(0, 1, true), 1440);
        due("forced(2)", n.forced(2), -1);
        due("doubt(2, false)", n.doubt(2, false), true);
        due("hour of y with b", n.hour(0, 1, false), 590);
    }

    private static void walksAndMoves() {
        promise = 7;
        NightHours n = told("place a; place b; place c; place d; place e; way a b 10; way c b 5; way a c 30; way a b 12; way d e 0;");
        int[][] want = {{0, 10, 15, -2, -2}, {10, 0, 5, -2, -2}, {15, 5, 0, -2, -2}, {-2, -2, -2, 0, 0}, {-2, -2, -2, 0, 0}};
        for (int a = 0; a < 5; a++) {
            for (int b = 0; b < 5; b++) {
                due("walk(" + a + ", " + b + ")", n.walk(a, b), want[a][b]);
            }
        }
        int[] none = {-1, 5, LOW, HIGH};
        for (int a : none) {
            due("walk(" + a + ", 0)", n.walk(a, 0), -1);
            due("walk(0, " + a + ")", n.walk(0, a), -1);
            due("walk(" + a + ", " + a + ")", n.walk(a, a), -1);
        }
        due("a WALK longer than the night", told(times("place p#;", 3) + "way pa pb 1440; way pb pc 1440;").walk(0, 2), 2880);
        promise = 8;
        n = told("who p; who q; place a; place b; place c; way a b 10; time u; time v of q in a; time w of p in a; time x of p in b;"
            + "time y of p in a; time z of p in c; time zz of q in c;");
        int[][] moves = {{1, 6, -2}, {2, 3, 10}, {2, 5, -2}, {3, 4, 10}, {3, 5, -2}, {4, 5, -2}};
        due("count(5)", n.count(5), 6);
        for (int k = 0; k < 6; k++) {
            for (int what = 0; what < 3; what++) {
                due("move(" + k + ", " + what + ")", n.move(k, what), moves[k][what]);
            }
            due("move(" + k + ", 3)", n.move(k, 3), -1);
            due("move(" + k + ", -1)", n.move(k, -1), -1);
        }
        due("move(6, 0)", n.move(6, 0), -1);
        due("move(-1, 0)", n.move(-1, 0), -1);
        due("move(HIGH, 0)", n.move(HIGH, 0), -1);
        due("a MOVE without a WALK has no choice", n.ways(), 0);
        due("TRIES up to it: none", n.count(6), 0);
    }

    private static void waysAndChoices() {
        promise = 9;
        due("ways()", told(TWO_WAYS).ways(), 2);
        due("ways()", told(MANY).ways(), 27);
        due("ways()", told(SPENT).ways(), -3);
        due("no HOURS without ITEMS", told("time x; time y; open x behind y 2 1; say s: x at 1 1;").ways(), 0);
        due("exactly 1000 TRIES", triesOf(1000).ways(), 512);
        due("1001 TRIES", triesOf(1001).ways(), -3);
        due("choices that mean the same are two WAYS", told("time x; say s: x at 1 1 or x at 1 1;").ways(), 2);
        due("a span behind itself", told("time x; say s: x behind x 0 0 or x behind x 1 2 or x behind x -3 -1 or x behind x -1 1;").ways(), 2);
        due("both ways of a WALK of 0", told("who p; place a; place b; way a b 0; time x of p in a; time y of p in b;").ways(), 2);
        promise = 10;
        NightHours n = told(MANY);
        for (int w = 0; w < 27; w++) {
            due("choice(" + w + ", 0)", n.choice(w, 0), w / 9);
            due("choice(" + w + ", 1)", n.choice(w, 1), w / 3 % 3);
            due("choice(" + w + ", 2)", n.choice(w, 2), w % 3);
        }
        due("choice(27, 0)", n.choice(27, 0), -1);
        due("choice(-1, 0)", n.choice(-1, 0), -1);
        due("choice(0, 3)", n.choice(0, 3), -1);
        due("choice(0, -1)", n.choice(0, -1), -1);
        due("choice(HIGH, LOW)", n.choice(HIGH, LOW), -1);
        n.doubt(1, true);
        due("choice of a DOUBTED one", n.choice(0, 1), -2);
        due("no WAY 9 now", n.choice(9, 1), -1);
        due("choice(8, 2)", n.choice(8, 2), 2);
        promise = 11;
        n = told(TWO_WAYS);
        due("goes(0, 0)", n.goes(0, 0), 0);
        due("goes(1, 0)", n.goes(1, 0), 1);
        due("goes(2, 0)", n.goes(2, 0), -1);
        due("goes(-1, 0)", n.goes(-1, 0), -1);
        due("goes(0, 1)", n.goes(0, 1), -1);
        due("goes(0, -1)", n.goes(0, -1), -1);
    }

    /**
     * SAYINGS of 4, 1, 4, 1, 4, 2, 2, 2 choices that all stand have 4 + 4 (1 + 4 + 4 (1 + 4 + 4 (2 + 2 (2 + 2 x 2)))) =
     * 1000 TRIES and 512 WAYS; one more of one choice ahead of them makes it 1001.
     */
    private static NightHours triesOf(int tries) {
        int[] choices = {4, 1, 4, 1, 4, 2, 2, 2};
        StringBuilder b = new StringBuilder("time x;");
        if (tries == 1001) {
            b.append("sure one: x at 0 9;");
        }
        for (int i = 0; i < choices.length; i++) {
            b.append("say s").append((char) ('a' + i)).append(": x at 0 9");
            for (int c = 1; c < choices[i]; c++) {
                b.append(" or x at 0 9");
            }
            b.append(';');
        }
        return told(b.toString());
    }

    private static void hoursAndGaps() {
        promise = 12;
        NightHours n = told(TWO_WAYS);
        int[][] want = {{540, 570}, {590, 610}, {600, 600}};
        for (int t = 0; t < 3; t++) {
            due("hour(0, " + t + ", false)", n.hour(0, t, false), want[t][0]);
            due("hour(0, " + t + ", true)", n.hour(0, t, true), want[t][1]);
        }
        due("hour(1, 0, false)", n.hour(1, 0, false), 610);
        due("hour(1, 0, true)", n.hour(1, 0, true), 650);
        due("hour(2, 0, true)", n.hour(2, 0, true), -1);
        due("hour(-1, 0, true)", n.hour(-1, 0, true), -1);
        due("hour(0, 3, true)", n.hour(0, 3, true), -1);
        due("hour(0, -1, true)", n.hour(0, -1, true), -1);
        due("hour(0, HIGH, true)", n.hour(0, HIGH, true), -1);
        NightHours free = told("time x; time y; say s: x behind y 1400 1440;");
        due("hour(0, 0, false)", free.hour(0, 0, false), 1400);
        due("hour(0, 0, true)", free.hour(0, 0, true), 1440);
        due("hour(0, 1, false)", free.hour(0, 1, false), 0);
        due("hour(0, 1, true)", free.hour(0, 1, true), 40);
        promise = 13;
        due("gap(0, 0, 1, false)", n.gap(0, 0, 1, false), -70);
        due("gap(0, 0, 1, true)", n.gap(0, 0, 1, true), -20);
        due("gap(0, 1, 0, true)", n.gap(0, 1, 0, true), 70);
        due("gap(1, 0, 1, false)", n.gap(1, 0, 1, false), 20);
        due("gap(1, 0, 1, true)", n.gap(1, 0, 1, true), 60);
        due("gap(1, 0, 0, true)", n.gap(1, 0, 0, true), 0);
        due("gap(2, 0, 0, true)", n.gap(2, 0, 0, true), -10000);
        due("gap(-1, 0, 0, true)", n.gap(-1, 0, 0, true), -10000);
        due("gap(0, 3, 0, true)", n.gap(0, 3, 0, true), -10000);
        due("gap(0, 0, -1, true)", n.gap(0, 0, -1, true), -10000);
        due("gap(0, -1, 0, true)", n.gap(0, -1, 0, true), -10000);
        due("gap(0, 0, 3, true)", n.gap(0, 0, 3, true), -10000);
    }

    private static void endsCanForced() {
        promise = 14;
        NightHours n = told(TWO_WAYS);
        due("ends(0, false)", n.ends(0, false), 540);
        due("ends(0, true)", n.ends(0, true), 650);
        due("ends(1, true)", n.ends(1, true), 610);
        due("ends(3, true)", n.ends(3, true), -1);
        due("ends(-1, true)", n.ends(-1, true), -1);
        NightHours none = told("time x; say s: x at 2 1;");
        due("ends without a WAY", none.ends(0, false), -2);
        due("ends without a WAY", none.ends(0, true), -2);
        due("ends(1) without a WAY", none.ends(1, true), -1);
        due("ends of MANY", told(MANY).ends(1, true), 29);
        promise = 15;
        due("can(0, 540)", n.can(0, 540), 1);
        due("can(0, 539)", n.can(0, 539), 0);
        due("can(0, 570)", n.can(0, 570), 1);
        due("can(0, 571)", n.can(0, 571), 0);
        due("can(1, 600)", n.can(1, 600), 2);
        due("can(0, 0)", n.can(0, 0), 0);
        due("can(0, 1440)", n.can(0, 1440), 0);
        due("can(0, 1441)", n.can(0, 1441), -1);
        due("can(0, -1)", n.can(0, -1), -1);
        due("can(3, 0)", n.can(3, 0), -1);
        due("can(-1, 0)", n.can(-1, 0), -1);
        due("can without a WAY", none.can(0, 1), 0);
        due("can of MANY", told(MANY).can(2, 15), 9);
        promise = 16;
        due("forced(0)", n.forced(0), 0);
        due("forced(1)", n.forced(1), -2);
        due("forced(3)", n.forced(3), -1);
        due("forced(-1)", n.forced(-1), -1);
        n.more(0, -1, 600, 1440);
        due("forced(1) late", n.forced(1), 1);
        n.doubt(1, true);
        due("forced(1) DOUBTED", n.forced(1), -1);
        due("forced without a WAY", none.forced(0), -2);
    }

    private static void setsAndBears() {
        promise = 17;
        NightHours n = told(TWO_WAYS);
        due("set(0, 0)", n.set(0, 0), true);
        due("set(0, 1440)", n.set(0, 1440), true);
        due("set(0, -1)", n.set(0, -1), true);
        due("set(0, -1) again", n.set(0, -1), true);
        due("set(0, 1441)", n.set(0, 1441), false);
        due("set(0, -2)", n.set(0, -2), false);
        due("set(0, HIGH)", n.set(0, HIGH), false);
        due("set(3, 5)", n.set(3, 5), false);
        due("set(-1, 5)", n.set(-1, 5), false);
        due("set(3, -1)", n.set(3, -1), false);
        promise = 18;
        due("bears(1)", n.bears(1), -4);
        n.set(0, 560);
        due("bears(1) with x alone", n.bears(1), -4);
        due("bears(2) with x alone", n.bears(2), -4);
        n.set(2, 600);
        due("bears(1)", n.bears(1), 0);
        n.set(0, 571);
        due("bears(1) at 571", n.bears(1), -2);
        n.set(0, 610);
        due("bears(1) at 610", n.bears(1), 1);
        n.set(0, 650);
        due("bears(1) at 650", n.bears(1), 1);
        n.set(0, 651);
        due("bears(1) at 651", n.bears(1), -2);
        due("bears(0)", n.bears(0), 0);
        due("bears(3)", n.bears(3), -1);
        due("bears(-1)", n.bears(-1), -1);
        n.set(0, 610);
        n.doubt(1, true);
        due("bears of a DOUBTED one", n.bears(1), 1);
        due("a wrong minute changes nothing", n.set(0, 2000), false);
        due("bears(1)", n.bears(1), 1);
        NightHours m = told("time x; time y; say s: x at 1 1 or x at 2 3 and y at 5 5 or x at 2 2; say t: x at 5 4 or x behind x 1 1;");
        m.set(0, 1);
        due("a TIME of another choice is not SET", m.bears(0), -4);
        m.set(1, 5);
        due("bears(0)", m.bears(0), 0);
        m.set(0, 2);
        due("bears(0), all of an ALL", m.bears(0), 1);
        m.set(1, 6);
        due("bears(0), not all of an ALL", m.bears(0), 2);
        due("bears(1)", m.bears(1), -2);
    }

    private static void breaking() {
        promise = 19;
        NightHours n = told("who p; who q; place a; place b; place c; way a b 10; time u of q in a; time v of q in c; time x of p in a;"
            + "time y of p in b; time z of p in a;");
        due("breaks() with nothing SET", n.breaks(), -2);
        n.set(2, 100);
        n.set(3, 110);
        due("breaks() at the WALK", n.breaks(), -2);
        n.set(4, 119);
        due("breaks() y, z", n.breaks(), 2);
        n.set(3, 91);
        due("breaks() x, y", n.breaks(), 1);
        n.set(3, 90);
        due("breaks() the other way round", n.breaks(), -2);
        n.set(0, 0);
        due("breaks() with one SET", n.breaks(), -2);
        n.set(1, 1440);
        due("breaks() without a WALK", n.breaks(), 0);
        n.set(0, -1);
        due("breaks() not SET any more", n.breaks(), -2);
    }

    private static void quarrelling() {
        promise = 20;
        NightHours n = told("time x; say a trust 3: x at 1 5; say b: x at 7 9; say c trust 2: x at 4 8; say d: x at 0 1440; sure e: x at 0 100;");
        due("quarrels()", n.quarrels(), 1);
        promise = 21;
        due("quarrel(0)", n.quarrel(0), 3);
        due("quarrel(1)", n.quarrel(1), -1);
        due("quarrel(-1)", n.quarrel(-1), -1);
        due("quarrel(HIGH)", n.quarrel(HIGH), -1);
        NightHours three = told("time x; time y; time z; say a: x behind y 5 5; say b: y behind z 5 5; say c: x behind z 9 9;");
        due("three that quarrel", three.quarrels(), 1);
        due("three that quarrel", three.quarrel(0), 7);
        NightHours order = told("time x; say a: x at 1 1; say b: x at 2 2; say c: x at 5 4;");
        due("by numbers first", order.quarrel(0), 4);
        due("by numbers first", order.quarrel(1), 3);
        due("how many", order.quarrels(), 2);
        order.doubt(2, true);
        due("DOUBTED ones do not quarrel", order.quarrel(0), 3);
        due("DOUBTED ones do not quarrel", order.quarrels(), 1);
        NightHours sure = told("time x; say a: x at 1 1; say b: x at 2 2; sure c: x at 5 4;");
        due("what is sure alone", sure.quarrels(), 1);
        due("what is sure alone", sure.quarrel(0), 0);
        NightHours moves = told("who p; place a; place b; time x of p in a; time y of p in b; say s: x at 1 1;");
        due("MOVES alone", moves.quarrel(0), 0);
        NightHours withMove = told("who p; place a; place b; way a b 9; time x of p in a; time y of p in b; say s: x at 1 1; say t: y at 9 9;"
            + "say u: y at 9 9 or y at 10 10;");
        due("with a MOVE", withMove.quarrels(), 1);
        due("with a MOVE", withMove.quarrel(0), 3);
        StringBuilder circle = new StringBuilder(times("time t#;", 10));
        for (int i = 0; i < 9; i++) {
            circle.append("say s").append((char) ('a' + i)).append(": t").append((char) ('b' + i)).append(" behind t").append((char) ('a' + i)).append(" 1 1;");
        }
        NightHours ten = told(circle + "say z: ta behind tj 5 5;");
        promise = 20;
        due("all ten", ten.quarrels(), 1);
        promise = 21;
        due("all ten", ten.quarrel(0), 1023);
        promise = 22;
        due("each of ten", ten.givingUps(), 10);
        due("each of ten", ten.givingUp(9), 512);
        NightHours each = told("time x;" + times("say s#: x at 5 4;", 10));
        promise = 20;
        due("each of ten", each.quarrels(), 10);
        due("each of ten", each.quarrel(9), 512);
        promise = 23;
        due("all ten", each.givingUps(), 1);
        due("all ten", each.givingUp(0), 1023);
        due("all ten", each.price(), 10);
    }

    private static void givingUp() {
        promise = 22;
        NightHours n = told("time x; say a trust 3: x at 1 5; say b: x at 7 9; say c trust 2: x at 4 8; sure e: x at 0 100;");
        due("givingUps()", n.givingUps(), 2);
        promise = 23;
        due("givingUp(0)", n.givingUp(0), 1);
        due("givingUp(1)", n.givingUp(1), 2);
        due("givingUp(2)", n.givingUp(2), -1);
        due("givingUp(-1)", n.givingUp(-1), -1);
        promise = 24;
        due("cheapest()", n.cheapest(), 2);
        promise = 25;
        due("price()", n.price(), 1);
        NightHours order = told("time x; say a trust 9: x at 1 1; say b trust 2: x at 2 2; say c trust 100: x at 5 4;");
        promise = 23;
        due("givingUp(0)", order.givingUp(0), 5);
        due("givingUp(1)", order.givingUp(1), 6);
        promise = 25;
        due("price()", order.price(), 102);
        NightHours tie = told("time x; time y; time z; say a: x behind y 5 5; say b: y behind z 5 5; say c: x behind z 9 9;");
        promise = 24;
        due("the first of the cheapest", tie.cheapest(), 1);
        due("price()", tie.price(), 1);
        NightHours many = told("time x; say a trust 3: x at 1 1; say b trust 3: x at 1 1; say c trust 5: x at 2 2;");
        due("one dear or two cheap", many.cheapest(), 4);
        due("one dear or two cheap", many.price(), 5);
        promise = 22;
        due("givingUps()", many.givingUps(), 2);
        promise = 23;
        due("by numbers first", many.givingUp(0), 4);
        due("by numbers first", many.givingUp(1), 3);
        NightHours none = told("time x; say a: x at 1 1; sure c: x at 5 4;");
        promise = 22;
        due("none helps", none.givingUps(), 0);
        promise = 24;
        due("none helps", none.cheapest(), -2);
        promise = 25;
        due("none helps", none.price(), -2);
        NightHours fine = told(TWO_WAYS);
        promise = 23;
        due("none is needed", fine.givingUps(), 1);
        due("none is needed", fine.givingUp(0), 0);
        due("none is needed", fine.cheapest(), 0);
        due("none is needed", fine.price(), 0);
    }

    private static void picking() {
        promise = 26;
        NightHours n = told(TWO_WAYS);
        due("pick(0, 0)", n.pick(0, 0), true);
        due("pick(0, 1)", n.pick(0, 1), false);
        due("pick(1, 1)", n.pick(1, 1), true);
        due("pick(1, 2)", n.pick(1, 2), false);
        due("pick(1, -2)", n.pick(1, -2), false);
        due("pick(1, -1)", n.pick(1, -1), true);
        due("pick(1, -1) again", n.pick(1, -1), true);
        due("pick(3, 0)", n.pick(3, 0), false);
        due("pick(3, -1)", n.pick(3, -1), false);
        due("pick(-1, 0)", n.pick(-1, 0), false);
        due("pick(99, 0)", n.pick(99, 0), false);
        due("pick(100, 1)", n.pick(100, 1), true);
        due("pick(100, 2)", n.pick(100, 2), false);
        due("pick(101, 0)", n.pick(101, 0), false);
        due("pick(HIGH, 0)", n.pick(HIGH, 0), false);
        due("pick(LOW, 0)", n.pick(LOW, 0), false);
        n.doubt(1, true);
        due("pick of a DOUBTED one", n.pick(1, 0), false);
        due("pick of a DOUBTED one", n.pick(1, -1), false);
        NightHours far = told("who p; place a; place b; time x of p in a; time y of p in b;");
        due("a MOVE without a choice", far.pick(100, 0), false);
        due("a MOVE without a choice", far.pick(100, -1), true);
        promise = 27;
        n = told(TWO_WAYS);
        due("stands() with nothing PICKED", n.stands(), 1);
        n.pick(0, 0);
        n.pick(1, 0);
        n.pick(2, 0);
        n.pick(100, 0);
        due("stands()", n.stands(), 1);
        n.pick(100, 1);
        due("stands() the other way round", n.stands(), 0);
        n.pick(1, 1);
        due("stands() with both changed", n.stands(), 1);
        n.pick(1, 0);
        due("stands()", n.stands(), 0);
        n.doubt(1, true);
        due("DOUBTED is PICKED no more", n.stands(), 1);
        n.doubt(1, false);
        due("and stays so", n.stands(), 1);
        n.more(0, -1, 3, 2);
        due("what is always", n.stands(), 0);
        n.fewer();
        due("what is always", n.stands(), 1);
        due("an open one", told("time x; time y; open x behind y 2 1;").stands(), 0);
    }

    private static void rings() {
        promise = 28;
        NightHours n = told(TWO_WAYS);
        due("ring() with HOURS", n.ring(), -2);
        n.pick(100, 1);
        n.pick(2, 0);
        n.pick(1, 0);
        n.pick(0, 0);
        due("ring()", n.ring(), 4);
        promise = 29;
        int[] want = {0, 1, 2, 100};
        for (int i = 0; i < 4; i++) {
            due("ringAt(" + i + ")", n.ringAt(i), want[i]);
        }
        due("ringAt(4)", n.ringAt(4), -1);
        due("ringAt(-1)", n.ringAt(-1), -1);
        n.pick(2, -1);
        due("ringAt(0) with HOURS", n.ringAt(0), -1);
        n = told("time x; say a: x at 1 1; say b: x at 2 2 or x at 1 2; say c: x at 3 3; say d: x at 1 9;");
        for (int s = 0; s < 4; s++) {
            n.pick(s, 0);
        }
        due("each is left out if there are none without it", n.ring(), 2);
        due("ringAt(0)", n.ringAt(0), 1);
        due("ringAt(1)", n.ringAt(1), 2);
        n.pick(2, -1);
        due("ring()", n.ring(), 2);
        due("ringAt(0)", n.ringAt(0), 0);
        due("ringAt(1)", n.ringAt(1), 1);
        n.pick(1, 1);
        due("ring()", n.ring(), -2);
        n.more(0, -1, 3, 2);
        due("no HOURS even without", n.ring(), 0);
        due("no HOURS even without", n.ringAt(0), -1);
    }

    private static void coulds() {
        promise = 30;
        NightHours n = told("who p; who q; place a; place b; place c; way a b 20; time x of p in a; sure s: x at 600 600;");
        due("could at once", n.could(0, 1, 590, 600), 0);
        due("could ahead", n.could(0, 1, 0, 580), 1);
        due("could ahead", n.could(0, 1, 580, 580), 1);
        due("could between", n.could(0, 1, 581, 619), 0);
        due("could behind", n.could(0, 1, 581, 620), 1);
        due("could behind", n.could(0, 1, 620, 1440), 1);
        due("could in that PLACE itself", n.could(0, 0, 595, 595), 1);
        due("could without a WALK", n.could(0, 2, 0, 1440), 0);
        due("could of another PERSON", n.could(1, 2, 600, 600), 1);
        due("a above b", n.could(0, 0, 1, 0), 0);
        due("could(2)", n.could(2, 0, 0, 0), -1);
        due("could(-1)", n.could(-1, 0, 0, 0), -1);
        due("could(0, 3)", n.could(0, 3, 0, 0), -1);
        due("could(0, -1)", n.could(0, -1, 0, 0), -1);
        due("could(.. -1, 0)", n.could(0, 0, -1, 0), -1);
        due("could(.. 0, 1441)", n.could(0, 0, 0, 1441), -1);
        due("could(.. 1441, 0)", n.could(0, 0, 1441, 0), -1);
        due("could(.. 0, -1)", n.could(0, 0, 0, -1), -1);
        due("nothing has changed", n.ways(), 1);
        due("nothing has changed", n.count(5), 0);
        n.more(0, -1, 1, 1);
        due("could without a WAY", n.could(1, 2, 0, 1440), 0);
        // Two MOVES of the new TIME behind 510 TRIES: all is gone through, not up to the first WAY alone.
        NightHours spent = told(spentText(8) + "place r; way q r 1; time y of p in r;");
        due("510 TRIES", spent.count(6), 510);
        due("could with 1022 TRIES", spent.could(0, 0, 0, 1440), -3);
        due("could with 510 TRIES", spent.could(0, 1, 0, 1440), 1);
        due("a above b is not SPENT", told(SPENT).could(0, 0, 5, 4), 0);
    }

    private static void beens() {
        promise = 31;
        NightHours n = told("who p; place a; place b; place c; way a b 20; time x of p in a; say s: x at 0 10 or x at 1435 1440;");
        due("been(0, 1, false)", n.been(0, 1, false), 0);
        due("been(0, 1, true)", n.been(0, 1, true), 1440);
        n.more(0, -1, 0, 9);
        due("been behind", n.been(0, 1, false), 20);
        due("been behind", n.been(0, 1, true), 1440);
        n.fewer();
        n.more(0, -1, 30, 1440);
        due("been ahead", n.been(0, 1, false), 0);
        due("been ahead", n.been(0, 1, true), 1420);
        due("been in that PLACE itself", n.been(0, 0, true), 1440);
        due("been without a WALK", n.been(0, 2, true), -2);
        due("been(1)", n.been(1, 0, true), -1);
        due("been(-1)", n.been(-1, 0, true), -1);
        due("been(0, 3)", n.been(0, 3, true), -1);
        due("been(0, -1)", n.been(0, -1, true), -1);
        NightHours spent = told(spentText(8) + "place r; way q r 1; time y of p in r;");
        due("been with 1022 TRIES", spent.been(0, 0, true), -3);
        due("been with 510 TRIES", spent.been(0, 1, false), 0);
    }

    private static void asking() {
        promise = 32;
        NightHours n = told(TWO_WAYS);
        due("ask(0, true)", n.ask(0, true), 1);
        due("ask(0, false)", n.ask(0, false), 1);
        due("ask(1, true)", n.ask(1, true), 2);
        due("ask(1, false)", n.ask(1, false), 2);
        due("ask(2)", n.ask(2, true), -1);
        due("ask(-1)", n.ask(-1, true), -1);
        NightHours one = told("time x; sure s: x at 5 6; ask a: x at 5 5; ask b: x at 6 6; ask c: x at 1 0; ask d: x at 5 6; ask e: x behind x 0 0;");
        int[][] want = {{1, 1}, {1, 1}, {0, 1}, {1, 0}, {1, 0}};
        for (int q = 0; q < 5; q++) {
            due("ask(" + q + ", true)", one.ask(q, true), want[q][0]);
            due("ask(" + q + ", false)", one.ask(q, false), want[q][1]);
        }
        promise = 33;
        due("next()", n.next(), 0);
        due("next() of equal ones", one.next(), 0);
        due("next() of the latter", told("time x; say s: x at 0 1 or x at 8 9; ask a: x at 0 9; ask b: x at 0 1; ask c: x at 8 9;").next(), 1);
        due("next() without QUESTIONS", told("time x;").next(), -2);
        due("next() without a WAY", told("time x; sure s: x at 1 0; ask a: x at 1 1;").next(), 0);
        promise = 34;
        due("left(0, 0)", n.left(0, 0), 2);
        due("left(1, 0)", n.left(1, 0), 1);
        due("left(0, 1)", n.left(0, 1), 1);
        due("left(1, 2)", n.left(1, 2), 1);
        due("left(3, 0)", n.left(3, 0), 1);
        due("left(0, 3)", n.left(0, 3), 1);
        due("left(1, 1)", n.left(1, 1), -1);
        due("left(4, 0)", n.left(4, 0), -1);
        due("left(0, 4)", n.left(0, 4), -1);
        due("left(-1, 0)", n.left(-1, 0), -1);
        due("left(0, LOW)", n.left(0, LOW), -1);
        due("left, the same HOURS for all", one.left(3, 0), 0);
        due("left, the same HOURS for all", one.left(0, 3), 0);
        due("left, one yes and one no", one.left(1, 2), 1);
        due("left(8, 4)", one.left(8, 4), 1);
        due("left(0, 0) without QUESTIONS", told("time x;").left(0, 0), 1);
        due("left(1, 0) without QUESTIONS", told("time x;").left(1, 0), -1);
    }

    private static void plans() {
        NightHours n = told(MANY);
        int[][] want = {{1000, 0, -2}, {27, 0, -2}, {26, 1, 0}, {18, 1, 0}, {17, 2, 0}, {9, 2, 0}, {8, 3, 0}, {6, 3, 0}, {5, -2, -2}, {0, -2, -2}, {1001, -1, -1}, {-1, -1, -1}, {LOW, -1, -1}, {HIGH, -1, -1}};
        for (int[] row : want) {
            promise = 35;
            due("plan(" + row[0] + ")", n.plan(row[0]), row[1]);
            promise = 36;
            due("first(" + row[0] + ")", n.first(row[0]), row[2]);
        }
        NightHours latter = told("time x; say s: x at 0 1 or x at 8 9; ask a: x at 0 9; ask b: x at 0 1;");
        due("first(1)", latter.first(1), 1);
        promise = 35;
        due("plan(1)", latter.plan(1), 1);
        NightHours most = told("time x; say a: x at 0 1 or x at 0 2 or x at 0 3 or x at 0 4; say b: x at 0 1 or x at 0 2 or x at 0 3 or x at 0 4;"
            + "say c: x at 0 1 or x at 0 2 or x at 0 3 or x at 0 4;");
        due("plan of 64 WAYS", most.plan(64), 0);
        due("plan of 64 WAYS", most.plan(63), -2);
        NightHours beyond = told("time x; say a: x at 0 1 or x at 0 2 or x at 0 3; say b: x at 0 1 or x at 0 2 or x at 0 3 or x at 0 4;"
            + "say c: x at 0 1 or x at 0 2 or x at 0 3; say d: x at 0 1 or x at 0 5;");
        due("72 WAYS", beyond.ways(), 72);
        due("plan(1000) of 72 WAYS", beyond.plan(1000), -3);
        promise = 36;
        due("first(1000) of 72 WAYS", beyond.first(1000), -3);
        due("first(1001) of 72 WAYS", beyond.first(1001), -1);
        NightHours none = told("time x; sure s: x at 1 0; ask a: x at 1 1;");
        promise = 35;
        due("plan(0) without a WAY", none.plan(0), 0);
        // x is 0, 1 or 2; two QUESTIONS at the worst, and the second one's is asked by the first one's answer.
        NightHours chain = told("time x; say s: x at 0 0 or x at 1 1 or x at 2 2 or x at 3 3; ask a: x at 0 0; ask b: x at 0 1; ask c: x at 2 2;");
        due("plan(1) in two", chain.plan(1), 2);
        promise = 36;
        due("first(1): half first", chain.first(1), 1);
        NightHours five = told("time x; say a: x at 0 0 or x at 1 1 or x at 2 9; say b: x at 0 2 or x at 3 3 or x at 4 4 or x at 5 5;"
            + times("ask k#: x at @ @;", 5).replaceFirst("@ @", "0 0").replaceFirst("@ @", "1 1").replaceFirst("@ @", "2 2")
            .replaceFirst("@ @", "3 3").replaceFirst("@ @", "4 4"));
        promise = 35;
        due("ways()", five.ways(), 6);
        due("plan(1) in five", five.plan(1), 5);
        due("plan(2) in four", five.plan(2), 4);
        promise = 36;
        due("first(1)", five.first(1), 0);
    }

    private static void mores() {
        promise = 37;
        NightHours n = told("time x; time y; say s: x at 100 200;");
        due("more(0, 1, 5, 5)", n.more(0, 1, 5, 5), 1);
        due("hour of y", n.hour(0, 1, false), 95);
        due("hour of y", n.hour(0, 1, true), 195);
        due("more(1, -1, 0, 120)", n.more(1, -1, 0, 120), 2);
        due("hour of x", n.hour(0, 0, true), 125);
        due("more(2, 0, 0, 0)", n.more(2, 0, 0, 0), -1);
        due("more(-1, 0, 0, 0)", n.more(-1, 0, 0, 0), -1);
        due("more(0, 2, 0, 0)", n.more(0, 2, 0, 0), -1);
        due("more(0, -2, 0, 0)", n.more(0, -2, 0, 0), -1);
        due("more(.. -1441, 0)", n.more(0, 1, -1441, 0), -1);
        due("more(.. 0, 1441)", n.more(0, 1, 0, 1441), -1);
        due("more(.. 1441, 0)", n.more(0, 1, 1441, 0), -1);
        due("more(.. 0, -1441)", n.more(0, 1, 0, -1441), -1);
        due("more(.. LOW, HIGH)", n.more(0, 1, LOW, HIGH), -1);
        due("more(.. -1440, 1440)", n.more(0, 1, -1440, 1440), 3);
        due("more(x, x, 0, 0)", n.more(0, 0, 0, 0), 4);
        due("ways()", n.ways(), 1);
        due("more(x, x, 1, 1)", n.more(0, 0, 1, 1), 5);
        due("ways()", n.ways(), 0);
        due("count(6)", n.count(6), 0);
        due("more(0, 1, 5, 4)", n.more(0, 1, 5, 4), 6);
        due("a seventh", n.more(0, 1, 5, 5), -1);
        promise = 38;
        for (int left = 5; left >= 0; left--) {
            due("fewer()", n.fewer(), left);
        }
        due("fewer() of none", n.fewer(), -1);
        due("hour of y", n.hour(0, 1, true), 1440);
        due("more again", n.more(0, -1, 150, 150), 1);
        due("hour of x", n.hour(0, 0, false), 150);
    }

    private static void tries() {
        promise = 39;
        NightHours n = told(TWO_WAYS);
        int[][] want = {{0, 0, 1}, {1, 0, 1}, {2, 0, 1}, {100, 0, 1}, {100, 1, 0}, {1, 1, 1}, {2, 0, 1}, {100, 0, 0}, {100, 1, 1}};
        due("count(6)", n.count(6), 9);
        for (int i = 0; i < 9; i++) {
            for (int what = 0; what < 3; what++) {
                due("tried(" + i + ", " + what + ")", n.tried(i, what), want[i][what]);
            }
        }
        due("tried(9, 0)", n.tried(9, 0), -1);
        due("tried(-1, 0)", n.tried(-1, 0), -1);
        due("tried(0, 3)", n.tried(0, 3), -1);
        due("tried(0, -1)", n.tried(0, -1), -1);
        n.doubt(1, true);
        due("a DOUBTED one is not tried", n.tried(1, 0), 2);
        NightHours spent = told(SPENT);
        due("tried(999, 0)", spent.tried(999, 0), 9);
        due("tried(999, 2)", spent.tried(999, 2), 1);
        due("tried(1000, 0)", spent.tried(1000, 0), -1);
        due("count(6)", spent.count(6), 1001);
        NightHours full = triesOf(1000);
        due("tried(999, 0)", full.tried(999, 0), 7);
        due("tried(999, 1)", full.tried(999, 1), 1);
        due("count(6)", full.count(6), 1000);
        NightHours far = told("who p; place a; place b; time x of p in a; time y of p in b; say s: x at 1 1 or x at 2 2;");
        due("a MOVE without a choice is not tried", far.count(6), 2);
        due("a MOVE without a choice", far.ways(), 0);
    }

    private static void slacks() {
        promise = 40;
        NightHours n = told(TWO_WAYS);
        due("setWays() with nothing SET", n.setWays(), 2);
        n.set(1, 600);
        due("setWays()", n.setWays(), 2);
        n.set(0, 560);
        due("setWays()", n.setWays(), 1);
        promise = 41;
        due("slack(0, 1, true)", n.slack(0, 1, true), 600);
        due("slack(1, 1, true)", n.slack(1, 1, true), -2);
        n.set(0, -1);
        due("slack(1, 0, false)", n.slack(1, 0, false), 620);
        due("slack(1, 0, true)", n.slack(1, 0, true), 650);
        due("slack(2, 0, true)", n.slack(2, 0, true), -1);
        due("slack(-1, 0, true)", n.slack(-1, 0, true), -1);
        due("slack(0, 3, true)", n.slack(0, 3, true), -1);
        due("slack(0, -1, true)", n.slack(0, -1, true), -1);
        n.set(1, 589);
        due("slack with what it has not", n.slack(0, 2, true), -2);
        promise = 40;
        due("setWays()", n.setWays(), 0);
        // Each by itself could be, both together could not.
        NightHours pair = told("time x; time y; time z; say s: x behind y 5 9 and y behind z 1 1;");
        pair.set(0, 100);
        pair.set(1, 94);
        due("setWays() of a pair", pair.setWays(), 1);
        promise = 41;
        due("slack of z", pair.slack(0, 2, false), 93);
        pair.set(1, 96);
        promise = 40;
        due("setWays() of a pair", pair.setWays(), 0);
        due("hours that are SET change no WAY", pair.hour(0, 0, true), 1440);
    }

    private static void drawing() {
        promise = 42;
        NightHours n = told("who p; who q; place a; place b; way a b 20; time t of p in a; time u of p in b; time v of p in b; time w of p in b;"
            + "sure s: t at 100 100 and u at 200 200 and v at 200 300; sure r: w at 300 300;");
        due("ways()", n.ways(), 1);
        int[][] want = {{0, -2}, {99, -2}, {100, 0}, {101, 0}, {180, 0}, {181, -4}, {199, -4}, {200, 1}, {250, 1}, {300, 1}, {301, 1}, {1440, 1}, {1441, -1}, {-1, -1}};
        for (int[] row : want) {
            due("drawn(0, 0, " + row[0] + ")", n.drawn(0, 0, row[0]), row[1]);
        }
        due("drawn of one without TIMES", n.drawn(0, 1, 5), -2);
        due("drawn(0, 2, 5)", n.drawn(0, 2, 5), -1);
        due("drawn(0, -1, 5)", n.drawn(0, -1, 5), -1);
        due("drawn(1, 0, 5)", n.drawn(1, 0, 5), -1);
        due("drawn(-1, 0, 5)", n.drawn(-1, 0, 5), -1);
        NightHours same = told("who p; place a; place b; way a b 0; time t of p in b; time u of p in a; time v of p in a;"
            + "sure s: t at 100 100 and u at 100 100 and v at 50 50;");
        due("the least number at m", same.drawn(0, 0, 100), 1);
        due("the least number ahead of m", same.drawn(0, 0, 101), 1);
        due("a WALK of 0", same.drawn(0, 0, 99), 0);
    }

    private static void gives() {
        promise = 43;
        NightHours n = told("time x; say a: x at 0 10; say b: x at 50 60;");
        due("give()", n.give(), 20);
        promise = 44;
        due("alone(0)", n.alone(0), 40);
        due("alone(1)", n.alone(1), 40);
        due("alone(2)", n.alone(2), -1);
        due("alone(-1)", n.alone(-1), -1);
        n.doubt(1, true);
        due("alone of a DOUBTED one", n.alone(1), -1);
        due("alone(0)", n.alone(0), 0);
        promise = 43;
        due("give()", n.give(), 0);
        NightHours sure = told("time x; sure c: x at 0 10; say b: x at 50 60 or x at 1440 1440;");
        due("what is sure does not give", sure.give(), 40);
        promise = 44;
        due("alone of a sure one", sure.alone(0), -1);
        promise = 43;
        due("none", told("time x; sure c: x at 5 4; say b: x at 1 1;").give(), 1441);
        due("the most", told("time x; sure c: x at 0 0; say b: x at 1440 1440;").give(), 1440);
        due("a span of none", told("time x; say b: x at 10 5;").give(), 3);
        due("without SAYINGS", told("time x;").give(), 0);
        due("all spans of an ALL", told("time x; time y; sure c: x at 0 0 and y at 0 0; say b: x at 5 5 and y at 9 9;").give(), 9);
        due("it stops at the first WAY", told(SPENT).give(), 0);
        due("SPENT on its way", told(spentText(9) + "say z: x at 20 30;").give(), -3);
        promise = 44;
        due("SPENT on its way", told(spentText(9) + "say z: x at 20 30;").alone(9), -3);
    }

    private static void keeping() {
        promise = 45;
        String open = "time go; time come; time meal; open come behind go 10 30;";
        NightHours n = told(open + "say s: meal behind come 0 19 or meal behind come 0 20 or meal behind come 0 21;");
        due("ways()", n.ways(), 3);
        due("kept(0)", n.kept(0), 0);
        due("kept(1)", n.kept(1), 1);
        due("kept(2)", n.kept(2), 1);
        due("kept(3)", n.kept(3), -1);
        due("kept(-1)", n.kept(-1), -1);
        promise = 46;
        due("keep()", n.keep(), 1);
        promise = 47;
        due("hand(1, 0)", n.hand(1, 0), 0);
        due("hand(1, 1)", n.hand(1, 1), -2);
        due("hand(1, 2)", n.hand(1, 2), 30);
        due("hand(0, 2)", n.hand(0, 2), -1);
        due("hand(0, 1) of what is not KEPT", n.hand(0, 1), -1);
        due("hand(3, 0)", n.hand(3, 0), -1);
        due("hand(-1, 0)", n.hand(-1, 0), -1);
        due("hand(1, 3)", n.hand(1, 3), -1);
        due("hand(1, -1)", n.hand(1, -1), -1);
        n.more(2, 0, 31, 31);
        due("MORE holds, too", n.hand(1, 2), -1);
        due("MORE holds, too", n.keep(), 2);
        due("MORE holds, too", n.hand(2, 2), 31);
        n.fewer();
        n.more(1, 0, 10, 29);
        promise = 45;
        due("MORE of an open one", n.kept(1), 0);
        promise = 46;
        due("keep() of none", n.keep(), -2);
        promise = 45;
        NightHours late = told(open + "say s: go at 1411 1440 or go at 1410 1440;");
        due("within the night whatever comes", late.kept(0), 0);
        due("within the night whatever comes", late.kept(1), 1);
        promise = 47;
        due("hand(1, 0)", late.hand(1, 0), 1410);
        promise = 45;
        NightHours two = told("time g; time x; time y; open x behind g 0 10; open y behind g 0 10; say s: y behind x -10 10 or y behind x -9 10;");
        due("each by itself", two.kept(0), 1);
        due("each by itself", two.kept(1), 0);
        NightHours known = told("time g; time x; open x behind g 0 10; say s: x behind g 0 10 or x behind g 1 10 or x behind x 0 0;");
        due("the span of an open one", known.kept(0), 1);
        due("narrower", known.kept(1), 0);
        due("behind itself", known.kept(2), 1);
        promise = 46;
        due("keep() without an open one", told(TWO_WAYS).keep(), 0);
        due("keep() without a WAY", told("time x; say s: x at 1 0;").keep(), -2);
        promise = 45;
        NightHours walk = told("who p; place a; place b; way a b 5; time g of p in a; time m of p in b; time x of p in a; open x behind g 10 20;"
            + "sure s: m behind g 15 15;");
        due("a MOVE that an open one may break", walk.kept(0), 0);
        NightHours far = told("who p; place a; place b; way a b 5; time g of p in a; time m of p in b; time x of p in a; open x behind g 10 20;"
            + "sure s: m behind g 25 25;");
        due("a MOVE that it can not", far.kept(0), 1);
        promise = 47;
        due("hand of m", far.hand(0, 1), 25);
    }

    private static void counts() {
        promise = 48;
        NightHours n = told(TWO_WAYS);
        int[] want = {1, 2, 3, 3, 2, 1, 9, 0, -1, -1, 1, 2, 1, -1};
        for (int what = 0; what < want.length; what++) {
            due("count(" + what + ")", n.count(what), want[what]);
        }
        due("count(-1)", n.count(-1), -1);
        due("count(LOW)", n.count(LOW), -1);
        due("count(HIGH)", n.count(HIGH), -1);
        n.doubt(1, true);
        due("choices of a DOUBTED one", n.count(11), 2);
        n.feed(0, 0, 0, 0, 0);
        due("count(7)", n.count(7), 20);
    }

    private static void spentAnswers() {
        promise = 9;
        NightHours n = told(SPENT);
        due("ways()", n.ways(), -3);
        due("choice(0, 0)", n.choice(0, 0), -3);
        due("choice(0, 10)", n.choice(0, 10), -1);
        due("goes(0, 0)", n.goes(0, 0), -1);
        due("hour(0, 0, true)", n.hour(0, 0, true), -3);
        due("hour(0, 1, true)", n.hour(0, 1, true), -1);
        due("gap(0, 0, 0, true)", n.gap(0, 0, 0, true), -10000);
        due("ends(0, true)", n.ends(0, true), -3);
        due("ends(1, true)", n.ends(1, true), -1);
        due("can(0, 5)", n.can(0, 5), -3);
        due("forced(0)", n.forced(0), -3);
        due("quarrels() stop at first WAYS", n.quarrels(), 0);
        due("givingUps() stop at first WAYS", n.givingUps(), 1);
        due("could(0, 0, 0, 0)", n.could(0, 0, 0, 0), -3);
        due("been(0, 0, true)", n.been(0, 0, true), -3);
        due("ask(0, true)", n.ask(0, true), -3);
        due("next()", n.next(), -3);
        due("left(0, 0)", n.left(0, 0), -3);
        due("left(1, 1)", n.left(1, 1), -1);
        due("plan(5)", n.plan(5), -3);
        due("first(5)", n.first(5), -3);
        due("plan(1001)", n.plan(1001), -1);
        due("setWays()", n.setWays(), -3);
        due("slack(0, 0, true)", n.slack(0, 0, true), -3);
        due("drawn(0, 0, 0)", n.drawn(0, 0, 0), -3);
        due("kept(0)", n.kept(0), -3);
        due("keep()", n.keep(), -3);
        due("hand(0, 0)", n.hand(0, 0), -3);
        n.doubt(0, true);
        n.doubt(1, true);
        due("ways() with two DOUBTED", n.ways(), 256);
        promise = 20;
        NightHours sets = told(spentText(9) + "say z: x at 20 30;");
        due("quarrels()", sets.quarrels(), -3);
        due("quarrel(0)", sets.quarrel(0), -3);
        due("givingUps()", sets.givingUps(), -3);
        due("givingUp(0)", sets.givingUp(0), -3);
        due("cheapest()", sets.cheapest(), -3);
        due("price()", sets.price(), -3);
        NightHours moves = told("who p; place a; place b; way a b 0;" + times("time x# of p in a; time y# of p in b;", 4));
        promise = 11;
        due("goes(0, 0)", moves.goes(0, 0), -3);
    }

    /** No WAY, QUARREL or GIVING UP has a number below 0: that needs no GOING THROUGH. From 0 on it does. */
    private static void numbersBelowZeroWhileSpent() {
        NightHours n = told("who p; place a; place b; way a b 0;"
            + times("time x# of p in a; time y# of p in b;", 4) + "say s: xa at 0 1440; say d: xa at 0 9;");
        n.doubt(1, true);
        int[] below = {-1, -2, LOW};
        for (int w : below) {
            wayWhileSpent(n, w, -1);
        }
        int[] from = {0, 1, 999, 1000, 1001, HIGH};
        for (int w : from) {
            wayWhileSpent(n, w, -3);
        }
        NightHours sets = told(spentText(9) + "say z: x at 20 30;");
        for (int i : below) {
            promise = 21;
            due("quarrel(" + i + ") while SPENT", sets.quarrel(i), -1);
            promise = 23;
            due("givingUp(" + i + ") while SPENT", sets.givingUp(i), -1);
        }
        promise = 21;
        due("quarrel(HIGH) while SPENT", sets.quarrel(HIGH), -3);
        promise = 23;
        due("givingUp(HIGH) while SPENT", sets.givingUp(HIGH), -3);
    }

    private static void wayWhileSpent(NightHours n, int w, int want) {
        promise = 10;
        due("choice(" + w + ", 0) while SPENT", n.choice(w, 0), want);
        due("choice(" + w + ", 1) of a DOUBTED one while SPENT", n.choice(w, 1), want);
        due("choice(" + w + ", 2) while SPENT", n.choice(w, 2), -1);
        promise = 11;
        due("goes(" + w + ", 0) while SPENT", n.goes(w, 0), want);
        promise = 12;
        due("hour(" + w + ", 0, true) while SPENT", n.hour(w, 0, true), want);
        due("hour(" + w + ", 0, false) while SPENT", n.hour(w, 0, false), want);
        promise = 13;
        due("gap(" + w + ", 0, 1, true) while SPENT", n.gap(w, 0, 1, true), -10000);
        promise = 41;
        due("slack(" + w + ", 0, true) while SPENT", n.slack(w, 0, true), want);
        promise = 42;
        due("drawn(" + w + ", 0, 0) while SPENT", n.drawn(w, 0, 0), want);
        promise = 45;
        due("kept(" + w + ") while SPENT", n.kept(w), want);
        promise = 47;
        due("hand(" + w + ", 0) while SPENT", n.hand(w, 0), want);
        due("hand(" + w + ", 8) while SPENT", n.hand(w, 8), -1);
    }

    /** As many TIMES, SAYINGS, MOVES and QUESTIONS as there can be at once. */
    private static void largest() {
        promise = 9;
        StringBuilder b = new StringBuilder("who p;" + times("place q#;", 6) + "way qa qb 1; way qb qc 1; way qc qd 1; way qd qe 1; way qe qf 9;");
        for (int i = 0; i < 10; i++) {
            char c = (char) ('a' + i);
            b.append("time t").append(c).append(" of p in q").append((char) ('a' + i % 5)).append(";");
        }
        for (int i = 0; i < 10; i++) {
            char c = (char) ('a' + i);
            b.append("say s").append(c).append(": t").append(c).append(" at ").append(100 - 10 * i).append(" ").append(100 - 10 * i).append(";");
        }
        b.append(times("ask k#: t# at 0 1440;", 5));
        NightHours n = told(b.toString());
        due("MOVES", n.count(5), 40);
        due("ways()", n.ways(), 1);
        due("TRIES: each MOVE's first choice is wrong", n.count(6), 10 + 2 * 40);
        due("goes(0, 39)", n.goes(0, 39), 1);
        due("hour(0, 9, true)", n.hour(0, 9, true), 10);
        due("left(31, 0)", n.left(31, 0), 1);
        due("left(0, 31)", n.left(0, 31), 0);
        due("plan(0)", n.plan(0), -2);
        due("keep()", n.keep(), 0);
        due("could, ten MOVES more", n.could(0, 5, 0, 1440), 1);
        due("been", n.been(0, 5, true), 1440);
        due("been", n.been(0, 5, false), 0);
        due("could between", n.could(0, 5, 11, 110), 0);
        due("could behind", n.could(0, 5, 112, 113), 1);
        due("give()", n.give(), 0);
        due("quarrels()", n.quarrels(), 0);
        for (int k = 0; k < 10; k++) {
            n.pick(k, 0);
        }
        for (int k = 0; k < 40; k++) {
            n.pick(100 + k, 1);
        }
        due("stands()", n.stands(), 1);
        n.pick(139, 0);
        due("stands()", n.stands(), 0);
        due("ring()", n.ring(), 3);
        due("ringAt(2)", n.ringAt(2), 139);
    }
}
