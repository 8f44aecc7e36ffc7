/** QUARRELS, GIVING UPS, COULD, BEEN, QUESTIONS, PLANS, GIVE and KEPT: promises 20 to 25, 30 to 36 and 43 to 47. */
final class AnswerBoundaries extends Boundaries {
    private static final String NO_WAY = "time x;sure s:x at 2 1;ask q:x at 1 1;";
    /** The set of z alone has no WAY in 4 + 12 + 24 + 96 + 288 + 576 = 1,000 TRIES. */
    private static final String SETS_FULL = "time x;" + alike("sure", "t", 4, 3, 2, 4, 3) + "say z:x at 20 30 or x at 20 30;";
    /** As above with one TRY more. */
    private static final String SETS_SPENT = "time x;" + alike("sure", "u", 1) + alike("sure", "t", 4, 3, 2, 4, 3) + "say z:x at 20 30 or x at 20 30;";
    /** Four WAYS, x at 0, 1, 2 or 3, and QUESTIONS of which the second one halves them. */
    private static final String HALVES = "time x;say s:x at 0 0 or x at 1 1 or x at 2 2 or x at 3 3;ask a:x at 0 0;ask b:x at 0 1;ask c:x at 2 2;";
    /** One comes 10 .. 30 behind going; the meal is at most 19, 20 or 21 behind that. */
    private static final String MEAL = "time go;time come;time meal;open come behind go 10 30;"
        + "say s:meal behind come 0 19 or meal behind come 0 20 or meal behind come 0 21;";

    @Override
    void run() {
        quarrels();
        givingUps();
        spentSets();
        quarrelNumbers();
        givingNumbers();
        cheapest();
        could();
        couldTries();
        been();
        asking();
        next();
        left();
        plans();
        first();
        give();
        halving();
        alone();
        kept();
        keep();
        hand();
    }

    /**
     * Ten SAYINGS, each of which puts its TIME so many minutes behind the one ahead (the first: behind minute 0), with what
     * is open and MORE holding the TIMES in a row: so it is their number alone that can be too great.
     */
    private NightHours inRow(int step, int trust) {
        StringBuilder b = new StringBuilder(times("time t#;", 10) + "open tb behind ta 0 1440;open td behind tc 0 1440;open tf behind te 0 1440;");
        b.append("say sa trust " + trust + ":ta at " + step + " 1440;");
        for (char c = 'b'; c <= 'j'; c++) {
            b.append("say s" + c + " trust " + trust + ":t" + c + " behind t" + (char) (c - 1) + " " + step + " 1440;");
        }
        NightHours n = told(b.toString());
        for (int t : new int[] {2, 4, 6, 7, 8, 9}) {
            n.more(t, t - 1, 0, 1440);
        }
        return n;
    }

    private void quarrels() {
        says(0, "QUARRELS: sets (bits, bit k: SAYING k) of SAYINGS told by say, not DOUBTED, that have no WAY (with all told by sure and MOVES, as if all "
            + "else were DOUBTED), while each set with one less has one.");
        NightHours n = told("time x;sure z:x at 0 9;say a:x at 1 1;say b:x at 2 2;say c:x at 0 9;");
        due("the bits of SAYINGS 1 and 2", n.quarrel(0), 6);
        due("no set that has more", n.quarrels(), 1);
        n = told("time x;sure z:x at 5 5;say a:x at 6 6;say b:x at 5 9;");
        due("one against what is sure", n.quarrel(0), 2);
        due("it alone", n.quarrels(), 1);
        n = told("who p;place a;place b;way a b 9;time x of p in a;time y of p in b;say s:x at 1 1;say t:y at 9 9;say u:y at 10 10;");
        due("two with a MOVE", n.quarrel(0), 3);
        due("t and u, too", n.quarrel(1), 6);
        due("no others", n.quarrels(), 2);
        n.doubt(0, true);
        due("DOUBTED ones are in none", n.quarrel(0), 6);
        due("DOUBTED ones are in none", n.quarrels(), 1);
        n = told("time x;time y;time z;say a:x behind y 5 5;say b:y behind z 5 5;say c:x behind z 9 9;");
        due("three, though each two can be", n.quarrel(0), 7);
        due("three, though each two can be", n.quarrels(), 1);
        n = told("time x;say a:x at 1 1 or x at 2 2;say b:x at 2 2 or x at 3 3;say c:x at 3 3 or x at 1 1;");
        due("three by their choices", n.quarrel(0), 7);
        n = told("time x;" + times("sure s#:x at 0 9;", 9) + "say z:x at 10 10;");
        due("SAYING 9 alone", n.quarrel(0), 512);
        n = inRow(144, 1);
        due("ten in a row", n.quarrels(), 0);
        n = inRow(145, 1);
        due("all ten", n.quarrels(), 1);
        due("all ten", n.quarrel(0), 1023);
    }

    private void givingUps() {
        says(0, "GIVING UPS: sets of them without which (DOUBTED, too) there is a WAY, while without each set with one less there is none.");
        NightHours n = told("time x;sure z:x at 0 9;say a:x at 1 1;say b:x at 2 2;say c:x at 0 9;");
        due("two of them, each alone", n.givingUps(), 2);
        due("SAYING 1", n.givingUp(0), 2);
        due("SAYING 2", n.givingUp(1), 4);
        n.doubt(1, true);
        due("without what is DOUBTED none is needed", n.givingUps(), 1);
        due("without what is DOUBTED none is needed", n.givingUp(0), 0);
        n = told("time x;" + times("say s#:x at 2 1;", 10));
        due("all ten at once", n.givingUps(), 1);
        due("all ten at once", n.givingUp(0), 1023);
        n = inRow(145, 1);
        due("each of ten", n.givingUps(), 10);
        due("the last of ten", n.givingUp(9), 512);

        says(0, "Both stand by numbers of SAYINGS, then by bits.");
        n = told("time x;say a:x at 1 1;say b:x at 2 2;say c:x at 3 3;say d:x at 2 1;");
        int[] quarrels = {8, 3, 5, 6};
        int[] givings = {11, 13, 14};
        for (int i = 0; i < 4; i++) {
            due("quarrel(" + i + ")", n.quarrel(i), quarrels[i]);
        }
        for (int i = 0; i < 3; i++) {
            due("givingUp(" + i + ")", n.givingUp(i), givings[i]);
        }
        n = told("time x;say a:x at 1 1;say b:x at 1 1;say c:x at 2 2;");
        due("one ahead of two", n.givingUp(0), 4);
        due("two behind one, though of less bits", n.givingUp(1), 3);
        // Five of ten quarrel, six of ten must be given up; and the other way round: no more sets can stand so.
        n = inRow(300, 1);
        due("all sets of five", n.quarrels(), 252);
        due("all sets of six", n.givingUps(), 210);
        due("the first of five", n.quarrel(0), 31);
        due("the second of five", n.quarrel(1), 47);
        due("the last of five", n.quarrel(251), 992);
        due("no more", n.quarrel(252), -1);
        due("the first of six", n.givingUp(0), 63);
        due("the last of six", n.givingUp(209), 1008);
        n = inRow(250, 1);
        due("all sets of six", n.quarrels(), 210);
        due("all sets of five", n.givingUps(), 252);
        due("the last of five", n.givingUp(251), 992);
        due("no more", n.givingUp(252), -1);
    }

    private void spentSets() {
        says(0, "(GOING THROUGH of a set stops at its first WAY; all sets are gone through; if one is SPENT, all of it is.)");
        due("first WAYS are soon found", told(SPENT).quarrels(), 0);
        due("no WAY in 1,000 TRIES", told(SETS_FULL).quarrels(), 1);
        due("no WAY in 1,001 TRIES", told(SETS_SPENT).quarrels(), -3);
        // The last TRY of all is the first WAY.
        String last = "time x;" + alike("sure", "t", 4, 3, 2, 4, 3).replace("x at 0 9;", "x at 0 10;") + "say z:x at 2 1 or x at 10 10;";
        due("the first WAY with TRY 1,000", told(last).quarrels(), 0);
        due("the first WAY with TRY 1,001", told(last.replace("time x;", "time x;sure u:x at 0 1440;")).quarrels(), -3);
        // z alone: 424 + 288 TRIES; y and z: 424 + 576 + 576, though that set is no QUARREL, z being one.
        String more = "time x;" + alike("sure", "t", 4, 3, 2, 4, 3) + "say y:x at 0 9 or x at 0 9;say z:x at 20 30;";
        NightHours n = told(more);
        due("a set that is SPENT, though a part of it quarrels", n.quarrels(), -3);
        due("a set that is SPENT, though a part of it quarrels", n.givingUps(), -3);
        n.doubt(5, true);
        due("without it", n.quarrel(0), 64);
        n.doubt(5, false);
        n.doubt(6, true);
        due("without the other", n.quarrels(), 0);
        n.doubt(6, false);
        due("with both again", n.quarrels(), -3);
        n.more(0, -1, 2, 1);
        due("without HOURS there is no TRY", n.quarrel(0), 0);
    }

    private void quarrelNumbers() {
        says(20, "How many QUARRELS there are;");
        due("none", told(TWO).quarrels(), 0);
        due("none without SAYINGS", new NightHours().quarrels(), 0);
        NightHours sure = told("time x;say a:x at 1 1;say b:x at 2 2;sure c:x at 5 4;");
        due("one, if what is sure has no WAY", sure.quarrels(), 1);

        says(20, "-3: SPENT.");
        due("quarrels()", told(SETS_SPENT).quarrels(), -3);

        says(21, "The i-th QUARREL's bits (0: what is sure and MOVES have no WAY alone);");
        due("what is sure", sure.quarrel(0), 0);
        due("MOVES without a WALK", told("who p;place a;place b;time x of p in a;time y of p in b;say s:x at 1 1;").quarrel(0), 0);
        due("MORE", moreOfNone("time x;say s:x at 1 1;").quarrel(0), 0);
        due("what is open", told("time x;time y;open x behind y 2 1;say s:x at 1 1;").quarrel(0), 0);
        due("quarrel(0)", told("time x;say a:x at 1 1;say b:x at 2 2;").quarrel(0), 3);

        says(21, "-3: SPENT;");
        for (int i : new int[] {0, 1, 252, HIGH}) {
            due("quarrel(" + i + ")", told(SETS_SPENT).quarrel(i), -3);
        }

        says(21, "NONE: not so many.");
        for (int i : noSuch(1)) {
            due("quarrel(" + i + ") of one", sure.quarrel(i), -1);
        }
        for (int i : noSuch(0)) {
            due("quarrel(" + i + ") of none", told(TWO).quarrel(i), -1);
        }
        due("quarrel(-1) while SPENT", told(SETS_SPENT).quarrel(-1), -1);
        // What was there ahead is gone.
        NightHours n = told("time x;say a:x at 1 1;say b:x at 2 2;");
        due("quarrels()", n.quarrels(), 1);
        n.doubt(0, true);
        due("quarrel(0) of none", n.quarrel(0), -1);
    }

    private NightHours moreOfNone(String text) {
        NightHours n = told(text);
        n.more(0, -1, 2, 1);
        return n;
    }

    private void givingNumbers() {
        says(22, "How many GIVING UPS there are;");
        due("one, of none", told(TWO).givingUps(), 1);
        due("one, of none, without SAYINGS", new NightHours().givingUps(), 1);
        NightHours sure = told("time x;say a:x at 1 1;sure c:x at 5 4;");
        due("none, if what is sure has no WAY", sure.givingUps(), 0);
        due("none with MORE of none", moreOfNone("time x;say s:x at 1 1;").givingUps(), 0);

        says(22, "-3: SPENT.");
        due("givingUps()", told(SETS_SPENT).givingUps(), -3);

        says(23, "The i-th GIVING UP's bits (0: none is needed);");
        due("none is needed", told(TWO).givingUp(0), 0);
        due("z", told(SETS_FULL).givingUp(0), 32);
        NightHours n = told("time x;say a:x at 1 1;say b:x at 2 2;");
        due("givingUp(1)", n.givingUp(1), 2);

        says(23, "-3: SPENT;");
        for (int i : new int[] {0, 1, 252, HIGH}) {
            due("givingUp(" + i + ")", told(SETS_SPENT).givingUp(i), -3);
        }

        says(23, "NONE: not so many.");
        for (int i : noSuch(2)) {
            due("givingUp(" + i + ") of two", n.givingUp(i), -1);
        }
        for (int i : noSuch(0)) {
            due("givingUp(" + i + ") of none", sure.givingUp(i), -1);
        }
        due("givingUp(-1) while SPENT", told(SETS_SPENT).givingUp(-1), -1);
    }

    private void cheapest() {
        says(0, "THE CHEAPEST GIVING UP: the one with the least sum of trust, of these the first.");
        NightHours n = told("time x;say a trust 5:x at 1 1;say b trust 3:x at 2 2;say c trust 3:x at 3 3;say d trust 3:x at 3 3;");
        // Two of the hours must go: b with c, d (9), a with c, d (11), a with b (8).
        due("the first by number is the cheapest", n.cheapest(), 3);
        n = told("time x;say a trust 3:x at 1 1;say b trust 3:x at 1 1;say c trust 7:x at 2 2;");
        due("two, cheaper than the one ahead", n.cheapest(), 3);
        n = told("time x;say a trust 3:x at 1 1;say b trust 3:x at 1 1;say c trust 6:x at 2 2;");
        due("of two as cheap the first", n.cheapest(), 4);
        due("of ten as cheap the first", inRow(145, 9).cheapest(), 1);

        says(24, "THE CHEAPEST GIVING UP's bits;");
        due("none is needed", told(TWO).cheapest(), 0);
        due("SAYING 9", told("time x;" + times("sure s#:x at 0 9;", 9) + "say z:x at 10 10;").cheapest(), 512);
        due("all ten", told("time x;" + times("say s# trust 100:x at 2 1;", 10)).cheapest(), 1023);

        says(24, "-2: there are none;");
        due("cheapest()", told(NO_WAY).cheapest(), -2);
        due("cheapest() with MORE of none", moreOfNone("time x;say s:x at 1 1;").cheapest(), -2);

        says(24, "-3: SPENT.");
        due("cheapest()", told(SETS_SPENT).cheapest(), -3);

        says(25, "Its sum of trust;");
        due("0 if none is needed", told(TWO).price(), 0);
        due("of two", n.price(), 6);
        due("all ten at 100", told("time x;" + times("say s# trust 100:x at 2 1;", 10)).price(), 1000);
        due("six of ten", inRow(300, 7).price(), 42);
        due("of one without trust", told(SETS_FULL).price(), 1);

        says(25, "-2: there are none;");
        due("price()", told(NO_WAY).price(), -2);

        says(25, "-3: SPENT.");
        due("price()", told(SETS_SPENT).price(), -3);
    }

    private void could() {
        says(0, "COULD a PERSON have been in a PLACE between two minutes a, b: a WAY is left if there were one more TIME, a .. b, of that PERSON in that PLACE");
        NightHours n = told("who p;who q;place a;place b;place c;way a b 20;time x of p in a;sure s:x at 600 600;");
        int[][] want = {{0, 0, 1}, {0, 580, 1}, {580, 580, 1}, {581, 581, 0}, {581, 619, 0}, {600, 600, 0}, {581, 620, 1}, {620, 620, 1}, {1440, 1440, 1}, {0, 1440, 1}};
        for (int[] w : want) {
            due("in b " + w[0] + " .. " + w[1], n.could(0, 1, w[0], w[1]), w[2]);
            due("in a, where x is, " + w[0] + " .. " + w[1], n.could(0, 0, w[0], w[1]), 1);
            due("in c, without a WALK, " + w[0] + " .. " + w[1], n.could(0, 2, w[0], w[1]), 0);
            due("of q " + w[0] + " .. " + w[1], n.could(1, 2, w[0], w[1]), 1);
        }
        due("nothing has changed", n.ways(), 1);
        due("nothing has changed", n.count(5), 0);
        due("nothing has changed", n.count(2), 1);
        n = told("who p;place a;place b;way a b 20;time x of p in a;say s:x at 100 100 or x at 200 200;say t:x at 200 200;");
        due("in the WAY that is left", n.could(0, 1, 100, 100), 1);
        due("not in that", n.could(0, 1, 200, 200), 0);
        n.doubt(1, true);
        due("in one of two", n.could(0, 1, 200, 200), 1);
        due("a WALK of 0", told("who p;place a;place b;way a b 0;time x of p in a;sure s:x at 9 9;").could(0, 1, 9, 9), 1);
        NightHours most = told("who p;" + times("place q#;", 6) + "way qa qb 1;" + times("time t# of p in qa;", 10) + times("say s#:t# at 0 0;", 10));
        due("ten MOVES more, behind all", most.could(0, 1, 0, 1), 1);
        due("ten MOVES more, at once", most.could(0, 1, 0, 0), 0);
        // The last two at 10 and 20 are two and three minutes off, the first at 100 five.
        most = told(MOST_MOVES);
        int[][] row = {{8, 1}, {9, 0}, {11, 0}, {12, 1}, {17, 1}, {18, 0}, {104, 0}, {105, 1}};
        for (int[] m : row) {
            due("nine MOVES more behind ten SAYINGS and 41 MOVES, at " + m[0], most.could(0, 5, m[0], m[0]), m[1]);
        }

        says(30, "COULD: 1, or 0;");
        due("1", n.could(0, 1, 0, 1440), 1);
        due("0 without a WAY", told("who p;place a;time x;sure s:x at 2 1;").could(0, 0, 0, 1440), 0);
        due("0 without HOURS", moreOfNone("who p;place a;time x;").could(0, 0, 0, 1440), 0);
        due("1 without a TIME", told("who p;place a;").could(0, 0, 7, 7), 1);

        says(30, "NONE: no such ones (a, b 0 .. 1440; a above b: 0).");
        for (int p : noSuch(1)) {
            due("could(" + p + ", 0, 0, 0)", n.could(p, 0, 0, 0), -1);
        }
        for (int p : noSuch(2)) {
            due("could(0, " + p + ", 0, 0)", n.could(0, p, 0, 0), -1);
        }
        NightHours spent = told(SPENT);
        for (int m : noMinute()) {
            due("could(0, 0, " + m + ", 1440)", n.could(0, 0, m, 1440), -1);
            due("could(0, 0, 0, " + m + ")", n.could(0, 0, 0, m), -1);
            due("could(0, 0, 0, " + m + ") while SPENT", spent.could(0, 0, 0, m), -1);
        }
        due("could(1, 0, 0, 0) while SPENT", spent.could(1, 0, 0, 0), -1);
        due("a above b", n.could(0, 0, 1, 0), 0);
        due("a above b", n.could(0, 0, 1440, 0), 0);
        due("a above b: no HOURS, so no TRY", spent.could(0, 0, 1, 0), 0);
        due("a above b of no such PLACE", n.could(0, 2, 1, 0), -1);
    }

    /** A night with a PERSON, who is in a at x (0 .. 9) and, if told, at y; from a to b it is 20. */
    private static String guest(String more, int... choices) {
        return "who p;place a;place b;way a b 20;time x of p in a;" + more + alike("say", "s", choices);
    }

    private void couldTries() {
        says(0, "(its MOVES with that PERSON's other TIMES behind all ITEMS, by these TIMES; here the new one has the greater number).");
        // 4 + 12 + 24 + 96 + 288 TRIES, and behind each of 288 WAYS both choices of the new MOVE.
        NightHours n = told(guest("", 4, 3, 2, 4, 3));
        due("1,000 TRIES", n.could(0, 1, 0, 1440), 1);
        due("424 TRIES without a new MOVE", n.could(0, 0, 0, 1440), 1);
        n = told(guest("", 1, 4, 3, 2, 4, 3));
        due("1,001 TRIES", n.could(0, 1, 0, 1440), -3);
        due("425 TRIES without a new MOVE", n.could(0, 0, 0, 1440), 1);
        // The new TIME can't be ahead of x, but ahead of y or behind it: two TRIES with x, then two with y. Were y first, there were six.
        n = told(guest("time y of p in a;", 4, 3, 1, 3, 2, 2, 1));
        due("1,000 TRIES, by these TIMES", n.could(0, 1, 0, 1440), 1);
        n = told(guest("time y of p in a;", 1, 4, 3, 1, 3, 2, 2, 1));
        due("1,001 TRIES, by these TIMES", n.could(0, 1, 0, 1440), -3);

        says(30, "-3: SPENT;");
        due("could of all", told(SPENT).could(0, 0, 0, 1440), -3);
        n = told(guest("", 1, 4, 3, 2, 4, 3));
        due("with the new MOVES alone", n.could(0, 1, 100, 200), -3);
        due("GOING THROUGH all is not", n.ways(), 288);
        n = told("who p;place a;place b;time x of p in a;" + alike("say", "s", 4, 3, 2, 4, 3));
        due("a new MOVE without a WALK is no TRY", n.could(0, 1, 0, 1440), 0);
    }

    private void been() {
        says(0, "BEEN: the least and the greatest minute of such a TIME (0 .. 1440) in all WAYS that there are then.");
        int[][] want = {{0, 20, 1440}, {19, 39, 1440}, {20, 0, 1440}, {600, 0, 1440}, {1420, 0, 1440}, {1421, 0, 1401}, {1440, 0, 1420}};
        for (int[] w : want) {
            NightHours n = told("who p;place a;place b;way a b 20;time x of p in a;sure s:x at " + w[0] + " " + w[0] + ";");
            due("the least with x at " + w[0], n.been(0, 1, false), w[1]);
            due("the greatest with x at " + w[0], n.been(0, 1, true), w[2]);
            due("in a itself", n.been(0, 0, false), 0);
            due("in a itself", n.been(0, 0, true), 1440);
            due("the least again", n.been(0, 1, false), w[1]);
            due("the greatest again", n.been(0, 1, true), w[2]);
        }
        for (int minute = 0; minute <= 1440; minute += 1440) {
            NightHours n = told("who p;place a;place b;way a b 1440;time x of p in a;sure s:x at " + minute + " " + minute + ";");
            due("the least a whole night off", n.been(0, 1, false), 1440 - minute);
            due("the greatest a whole night off", n.been(0, 1, true), 1440 - minute);
        }
        NightHours n = told("who p;place a;place b;way a b 20;time x of p in a;time y of p in a;sure s:x at 10 10 or x at 19 19;sure t:y at 1430 1430 or y at 1425 1425;");
        due("in all WAYS: the least is of x at 10", n.been(0, 1, false), 30);
        due("in all WAYS: the greatest is of y at 1430", n.been(0, 1, true), 1410);

        says(31, "BEEN: the least (most: the greatest) minute;");
        due("without a TIME", told("who p;place a;").been(0, 0, false), 0);
        due("without a TIME", told("who p;place a;").been(0, 0, true), 1440);
        n = told("who p;place a;place b;way a b 720;time x of p in a;sure s:x at 720 720;");
        due("just at the night's beginning", n.been(0, 1, false), 0);
        due("just at the night's end", n.been(0, 1, true), 1440);
        n.more(0, -1, 720, 720);
        due("been() again", n.been(0, 1, true), 1440);

        says(31, "-2: no WAY;");
        due("a WALK that is too long", told("who p;place a;place b;way a b 721;time x of p in a;sure s:x at 720 720;").been(0, 1, true), -2);
        due("no WALK", told("who p;place a;place b;time x of p in a;").been(0, 1, false), -2);
        due("no WAY even without", told("who p;place a;time x;sure s:x at 2 1;").been(0, 0, true), -2);
        due("no HOURS", moreOfNone("who p;place a;time x;").been(0, 0, false), -2);

        says(31, "-3: SPENT;");
        due("been of all", told(SPENT).been(0, 0, false), -3);
        due("1,001 TRIES", told(guest("", 1, 4, 3, 2, 4, 3)).been(0, 1, true), -3);
        due("1,000 TRIES", told(guest("", 4, 3, 2, 4, 3)).been(0, 1, false), 20);

        says(31, "NONE: no such ones.");
        for (int p : noSuch(1)) {
            due("been(" + p + ", 0, false)", n.been(p, 0, false), -1);
            due("been(" + p + ", 0, true) while SPENT", told(SPENT).been(p, 0, true), -1);
        }
        for (int p : noSuch(2)) {
            due("been(0, " + p + ", true)", n.been(0, p, true), -1);
        }
    }

    private void asking() {
        says(0, "A QUESTION: its YES: WAYS that have HOURS with its SPAN, too; its NO: those that have HOURS without it (x, or x less y, below a; or above b).");
        // x is 5 .. 9 and 100 less than y.
        int[][] want = {{9, 20, 1, 1}, {10, 20, 0, 1}, {0, 4, 0, 1}, {0, 5, 1, 1}, {5, 9, 1, 0}, {0, 1440, 1, 0}, {5, 8, 1, 1}, {6, 9, 1, 1}, {6, 8, 1, 1}, {7, 6, 0, 1}};
        for (int[] w : want) {
            String span = " " + w[0] + " " + w[1] + ";";
            NightHours n = told("time x;time y;sure s:x at 5 9 and y behind x 100 100;ask q:x at" + span + "ask r:x behind x" + span
                + "ask t:y at " + (w[0] + 100) % 1441 + " " + Math.min(1440, w[1] + 100) + ";");
            due("YES of x at" + span, n.ask(0, true), w[2]);
            due("NO of x at" + span, n.ask(0, false), w[3]);
            due("YES of x behind x" + span, n.ask(1, true), w[0] <= 0 && w[1] >= 0 ? 1 : 0);
            due("NO of x behind x" + span, n.ask(1, false), w[0] <= 0 && w[1] >= 0 ? 0 : 1);
            due("YES of y at" + span, n.ask(2, true), w[2]);
            due("NO of y at" + span, n.ask(2, false), w[3]);
        }
        int[][] gaps = {{-9, -5, 1, 0}, {-9, -6, 1, 1}, {-8, -5, 1, 1}, {-4, 0, 0, 1}, {-5, 0, 1, 1}, {-20, -10, 0, 1}, {-20, -9, 1, 1}, {-1440, 1440, 1, 0}, {-6, -7, 0, 1}};
        for (int[] g : gaps) {
            NightHours n = told("time x;time y;sure s:x behind y -9 -5;ask q:x behind y " + g[0] + " " + g[1] + ";");
            due("YES of x behind y " + g[0] + " " + g[1], n.ask(0, true), g[2]);
            due("NO of x behind y " + g[0] + " " + g[1], n.ask(0, false), g[3]);
        }

        says(32, "YES (true) or NO of a QUESTION: how many WAYS;");
        NightHours n = told(HALVES);
        int[][] halves = {{1, 3}, {2, 2}, {1, 3}};
        for (int q = 0; q < 3; q++) {
            due("ask(" + q + ", true)", n.ask(q, true), halves[q][0]);
            due("ask(" + q + ", false)", n.ask(q, false), halves[q][1]);
        }
        due("no WAY", told(NO_WAY).ask(0, true), 0);
        due("no WAY", told(NO_WAY).ask(0, false), 0);
        due("the fifth", told("time x;" + times("ask k#:x at 1 1;", 4) + "ask z:x at 0 1440;").ask(4, false), 0);

        says(32, "-3: SPENT;");
        due("YES", told(SPENT).ask(0, true), -3);
        due("NO", told(SPENT).ask(0, false), -3);

        says(32, "NONE: no such one.");
        for (int q : noSuch(3)) {
            due("ask(" + q + ", true)", n.ask(q, true), -1);
            due("ask(" + q + ", false)", n.ask(q, false), -1);
        }
        due("ask(1, true) while SPENT", told(SPENT).ask(1, true), -1);
        due("ask(5, true) of five", told("time x;" + times("ask k#:x at 1 1;", 5)).ask(5, true), -1);
    }

    private void next() {
        says(0, "NEXT: the QUESTION whose greater number of these two is least; of these the first.");
        due("the second halves them", told(HALVES).next(), 1);
        due("of two that halve them the first", told(HALVES.replace("ask c:x at 2 2", "ask c:x at 1 2")).next(), 1);
        due("by its NO", told("time x;say s:x at 0 0 or x at 1 1 or x at 2 2;ask a:x at 9 9;ask b:x at 0 0;ask c:x at 0 1;").next(), 1);
        due("by its YES", told("time x;say s:x at 0 0 or x at 1 1 or x at 2 2;ask a:x at 0 2;ask b:x at 0 1;").next(), 1);
        due("a WAY can be in both", told("time x;say s:x at 0 9 or x at 0 9;ask a:x at 0 4;ask b:x at 0 9;").next(), 0);
        due("the fifth", told("time x;say s:x at 0 0 or x at 1 1;" + times("ask k#:x at 0 1;", 4) + "ask z:x at 0 0;").next(), 4);
        due("without a WAY the first", told(NO_WAY).next(), 0);

        says(33, "NEXT;");
        due("one alone", told("time x;ask q:x at 0 0;").next(), 0);

        says(33, "-2: no QUESTIONS;");
        due("next()", told("time x;").next(), -2);
        due("next() of nothing", new NightHours().next(), -2);
        due("next() without a WAY", told("time x;sure s:x at 2 1;").next(), -2);

        says(33, "-3: SPENT.");
        due("next()", told(SPENT).next(), -3);
        due("next() without QUESTIONS needs no GOING THROUGH", told(SPENT.replace("ask k:x at 0 5;", "")).next(), -2);
    }

    private void left() {
        says(0, "LEFT, with some QUESTIONS answered yes and some no: WAYS that have HOURS with the SPANS of all the former and without that of each of the latter "
            + "(the same HOURS for all).");
        NightHours n = told("time x;sure s:x at 5 6;ask a:x at 5 5;ask b:x at 6 6;ask c:x at 0 1440;");
        int[][] want = {{0, 0, 1}, {1, 0, 1}, {2, 0, 1}, {3, 0, 0}, {0, 3, 0}, {1, 2, 1}, {2, 1, 1}, {4, 0, 1}, {0, 4, 0}, {5, 2, 1}, {1, 4, 0}};
        for (int[] w : want) {
            due("left(" + w[0] + ", " + w[1] + ")", n.left(w[0], w[1]), w[2]);
        }
        n = told("time x;sure s:x at 0 9;ask a:x at 3 5;ask b:x at 0 2;ask c:x at 6 9;");
        due("above the one, beyond the other", n.left(0, 3), 1);
        due("below the one, beyond the other", n.left(0, 5), 1);
        due("within what both leave", n.left(0, 6), 1);
        due("no HOURS without all three", n.left(0, 7), 0);
        n = told("time x;time y;say s:x at 0 9 or y at 0 9;ask a:x behind y 1 1440;ask b:y behind x 1 1440;ask c:x at 9 9;ask d:x at 10 10;");
        due("neither is behind the other, x at 9", n.left(4, 3), 2);
        due("neither is behind the other, x at 10", n.left(8, 3), 0);
        due("x behind y, x at 10", n.left(9, 2), 1);

        says(34, "LEFT with QUESTIONS answered yes and no (bits): how many WAYS;");
        due("none answered", told(HALVES).left(0, 0), 4);
        due("without QUESTIONS", told("time x;").left(0, 0), 1);
        NightHours five = told("time x;say s:x at 0 9 or x at 7 9;" + times("ask k#:x at 0 1440;", 4) + "ask z:x at 5 5;");
        due("all five yes", five.left(31, 0), 1);
        due("four yes, one no", five.left(15, 16), 2);
        due("all five no", five.left(0, 31), 0);
        due("no WAY", told(NO_WAY).left(1, 0), 0);

        says(34, "-3: SPENT;");
        due("left(0, 0)", told(SPENT).left(0, 0), -3);
        due("left(1, 0)", told(SPENT).left(1, 0), -3);
        due("left(0, 1)", told(SPENT).left(0, 1), -3);

        says(34, "NONE: no such ones, one that is in both.");
        for (int bits : new int[] {32, 33, 64, 1 << 30, LOW, LOW + 1, -1, HIGH}) {
            due("left(" + bits + ", 0)", five.left(bits, 0), -1);
            due("left(0, " + bits + ")", five.left(0, bits), -1);
        }
        for (int bits = 1; bits < 32; bits++) {
            due("left(" + bits + ", " + bits + ")", five.left(bits, bits), -1);
        }
        due("left(3, 6)", five.left(3, 6), -1);
        due("left(1, 0) without QUESTIONS", told("time x;").left(1, 0), -1);
        due("left(2, 0) while SPENT", told(SPENT).left(2, 0), -1);
        due("left(1, 1) while SPENT", told(SPENT).left(1, 1), -1);
    }

    private void plans() {
        says(0, "A PLAN: the least number of QUESTIONS, one asked behind the other by what those ahead were answered, after which at the worst at most m WAYS are LEFT;");
        NightHours n = told(HALVES);
        int[][] want = {{0, -2}, {1, 2}, {2, 1}, {3, 1}, {4, 0}, {5, 0}, {1000, 0}};
        for (int[] w : want) {
            due("plan(" + w[0] + ")", n.plan(w[0]), w[1]);
        }
        // A WAY that can answer both is LEFT by both.
        n = told("time x;say s:x at 0 9 or x at 0 9 or x at 0 1;ask a:x at 0 4;ask b:x at 5 9;");
        due("yes leaves all three", n.plan(2), -2);
        due("all three at once", n.plan(3), 0);
        n = told("time x;say s:x at 0 0 or x at 1 1 or x at 2 2;ask a:x at 0 0;ask b:x at 0 0;ask c:x at 0 1;");
        due("a QUESTION that asks the same again is no help", n.plan(1), 2);
        n = told("time x;say a:x at 0 0 or x at 1 1 or x at 2 2 or x at 3 5;say b:x at 0 3 or x at 4 4 or x at 5 5;"
            + "ask k:x at 0 0;ask l:x at 1 1;ask m:x at 2 2;ask o:x at 3 3;ask q:x at 4 4;");
        due("six WAYS", n.ways(), 6);
        due("all five QUESTIONS", n.plan(1), 5);
        due("four of five", n.plan(2), 4);
        due("one of five", n.plan(5), 1);
        // x is y, or 5 behind it: only both answers together tell which.
        n = told("time x;time y;sure r:x at 0 9 and y at 0 9;say s:x behind y 0 0 or x behind y 5 5;ask a:x at 0 4;ask b:y at 0 4;");
        due("the same HOURS for all answers", n.plan(1), 2);
        due("the same HOURS for all answers", n.first(1), 0);
        n = told("time x;time y;say s:x at 0 4 or x behind y 0 0;ask a:x at 0 4;");
        for (int round = 0; round < 2; round++) {
            due("the second WAY can answer both", n.plan(1), -2);
            n.more(1, -1, 5, 9);
            due("with MORE it can't", n.plan(1), 1);
            n.fewer();
        }

        says(0, "told if there are 64 WAYS at most.");
        NightHours most = told("time x;" + alike("say", "s", 4, 4, 4) + "ask q:x at 0 9;");
        due("64 WAYS", most.ways(), 64);
        due("plan(64)", most.plan(64), 0);
        due("plan(63)", most.plan(63), -2);
        due("first(64)", most.first(64), -2);
        String one = "x at 0 1 or x at 0 0 or x at 0 0 or x at 0 0;";
        NightHours beyond = told("time x;say a:x at 0 0 or x at 1 1;say b:" + one + "say c:" + one + "say d:" + one + "ask q:x at 0 0;");
        due("65 WAYS", beyond.ways(), 65);
        due("plan(64) of 65", beyond.plan(64), -3);
        due("first(64) of 65", beyond.first(64), -3);
        beyond.more(0, -1, 0, 0);
        due("64 of them are left with MORE", beyond.plan(64), 0);
        beyond.fewer();
        due("65 again", beyond.plan(64), -3);

        says(35, "A PLAN to at most m (0 .. 1000) WAYS LEFT: how many QUESTIONS at the worst;");
        due("plan(0) without a WAY", told(NO_WAY).plan(0), 0);
        due("plan(1000) without a WAY", told(NO_WAY).plan(1000), 0);
        due("plan(1) of one WAY", told("time x;ask q:x at 0 0;").plan(1), 0);

        says(35, "-2: there is none;");
        due("plan(0) of one WAY", told("time x;ask q:x at 0 0;").plan(0), -2);
        due("without QUESTIONS", told("time x;say s:x at 0 0 or x at 1 1;").plan(1), -2);
        due("yes would do, no would not", told("time x;say s:x at 0 0 or x at 1 1 or x at 1 1;ask q:x at 0 0;").plan(1), -2);
        due("no would do, yes would not", told("time x;say s:x at 0 0 or x at 1 1 or x at 1 1;ask q:x at 1 1;").plan(1), -2);
        due("no to all five leaves one WAY", told("time x;sure s:x at 9 9;" + times("ask k#:x at 0 0;", 5)).plan(0), -2);
        due("yes to all five leaves one WAY", told("time x;sure s:x at 9 9;" + times("ask k#:x at 9 9;", 5)).plan(0), -2);
        due("two WAYS that no QUESTION tells apart", told("time x;say s:x at 0 0 or x at 0 0;ask q:x at 0 0;").plan(1), -2);

        says(35, "-3: SPENT, more than 64 WAYS;");
        due("SPENT", told(SPENT).plan(0), -3);
        due("SPENT", told(SPENT).plan(1000), -3);
        due("65 WAYS, m is more", beyond.plan(1000), -3);

        says(35, "NONE: no such m.");
        for (int m : noSuch(1001)) {
            due("plan(" + m + ")", most.plan(m), -1);
            due("plan(" + m + ") while SPENT", told(SPENT).plan(m), -1);
            due("plan(" + m + ") of 65 WAYS", beyond.plan(m), -1);
        }
    }

    private void first() {
        says(36, "The least QUESTION that can be asked first by such a PLAN;");
        NightHours n = told(HALVES);
        due("first(1): it must halve", n.first(1), 1);
        due("first(2): it must halve", n.first(2), 1);
        due("first(3): any will do", n.first(3), 0);
        due("the fifth", told("time x;say s:x at 0 0 or x at 1 1;" + times("ask k#:x at 0 1;", 4) + "ask z:x at 0 0;").first(1), 4);

        says(36, "-2: there is none, or none is needed;");
        due("none", n.first(0), -2);
        due("none is needed", n.first(4), -2);
        due("none is needed", n.first(1000), -2);
        due("without QUESTIONS", told("time x;say s:x at 0 0 or x at 1 1;").first(1), -2);
        due("no WAY", told(NO_WAY).first(0), -2);

        says(36, "-3: SPENT, more than 64 WAYS;");
        due("SPENT", told(SPENT).first(0), -3);
        due("72 WAYS", told("time x;" + alike("say", "s", 4, 3, 3, 2) + "ask q:x at 0 9;").first(1000), -3);

        says(36, "NONE: no such m.");
        for (int m : noSuch(1001)) {
            due("first(" + m + ")", n.first(m), -1);
            due("first(" + m + ") while SPENT", told(SPENT).first(m), -1);
        }
    }

    private void give() {
        says(0, "GIVE: the least g of 0 .. 1440 with which, all SPANS of SAYINGS told by say, not DOUBTED, being a - g .. b + g, there is a WAY.");
        NightHours n = told("time x;say a:x at 0 10;say b:x at 51 60;");
        due("both give", n.give(), 21);
        n.doubt(1, true);
        due("without what is DOUBTED", n.give(), 0);
        due("what is sure gives nothing", told("time x;sure a:x at 0 10;say b:x at 50 60;").give(), 40);
        due("a above b", told("time x;say b:x at 10 5;").give(), 3);
        due("all SPANS of an ALL", told("time x;time y;sure c:x at 0 0 and y at 0 0;say b:x at 5 5 and y at 9 9;").give(), 9);
        due("the nearest choice", told("time x;sure c:x at 0 0;say b:x at 50 60 or x at 7 8 or x at 9 9;").give(), 7);
        due("behind, downwards", told("time x;time y;sure c:x at 0 0 and y at 50 50;say b:x behind y -40 -10;").give(), 10);
        due("behind, upwards", told("time x;time y;sure c:x at 50 50 and y at 0 0;say b:x behind y -40 -10;").give(), 60);
        due("with a MOVE", told("who p;place a;place b;way a b 20;time x of p in a;time y of p in b;say s:x at 100 100 and y at 100 100;").give(), 10);
        n = told("time x;say a:x at 0 10;");
        n.more(0, -1, 15, 15);
        due("MORE gives nothing", n.give(), 5);
        due("what is open gives nothing", told("time x;time y;open x behind y 9 9;say s:x behind y 0 0;").give(), 9);

        says(43, "GIVE;");
        due("0", told(TWO).give(), 0);
        due("0 without SAYINGS", new NightHours().give(), 0);
        due("1", told("time x;sure c:x at 0 0;say b:x at 1 1;").give(), 1);
        due("720", told("time x;sure c:x at 0 0;say b:x at 720 720;").give(), 720);
        due("721", told("time x;sure c:x at 0 0;say b:x at 721 721;").give(), 721);
        due("1440", told("time x;sure c:x at 0 0;say b:x at 1440 1440;").give(), 1440);
        due("1440 behind", told("time x;time y;sure c:x at 0 0 and y at 1440 1440;say b:x behind y 0 0;").give(), 1440);

        says(43, "1441: none;");
        due("1441 behind", told("time x;time y;sure c:x at 0 0 and y at 1440 1440;say b:x behind y 1 1;").give(), 1441);
        due("2880 behind", told("time x;time y;sure c:x at 0 0 and y at 1440 1440;say b:x behind y 1440 1440;").give(), 1441);
        due("what is sure has no WAY", told("time x;sure c:x at 5 4;say b:x at 1 1;").give(), 1441);
        due("no HOURS", moreOfNone("time x;say b:x at 1 1;").give(), 1441);
        due("a MOVE without a WALK", told("who p;place a;place b;time x of p in a;time y of p in b;say s:x at 1 1;").give(), 1441);
    }

    private void halving() {
        says(0, "(g is halved: low 0, high 1441: while low is below high, mid is (low + high) / 2; if there is a WAY with mid, high becomes mid, else low becomes "
            + "mid + 1; 1441: none. Each GOING THROUGH stops at its first WAY; the first that is SPENT ends it.)");
        due("first WAYS are soon found", told(SPENT).give(), 0);
        // With g 720, the first, all choices but the last leave x at 9, and z refuses that: the first WAY is TRY 1,000. With less they fail at once.
        String late = "time x;sure a:x at 0 9;" + alike("say", "s", 4, 3, 2, 4, 3).replace("x at 0 9;", "x at 0 8;").replace("x at 0 9", "x at 729 1440")
            + "sure z:x at 0 8 or x at 0 8;";
        due("a WAY with TRY 1,000 of the first g", told(late).give(), 0);
        String more = late.replace("time x;", "time x;sure b:x at 0 9;");
        due("a WAY with TRY 1,001 of the first g", told(more).give(), -3);
        due("though without giving it is soon found", told(more).quarrels(), 0);
        // g is 720, 360, 180, 90, 45, 22, 11, 5, 8, 10: with the last three there is no WAY.
        due("no WAY in 1,000 TRIES", told(SETS_FULL).give(), 11);

        says(43, "-3: SPENT.");
        due("no WAY in 1,001 TRIES", told(SETS_SPENT).give(), -3);
    }

    private void alone() {
        says(0, "ALONE: likewise for one of them, the others as they are.");
        NightHours n = told("time x;say a:x at 0 10;say b:x at 51 60;say c:x at 0 1440;sure d:x at 0 1440;");
        due("alone(0)", n.alone(0), 41);
        due("alone(1)", n.alone(1), 41);

        says(44, "ALONE;");
        due("0", told(TWO).alone(1), 0);
        due("1440", told("time x;sure c:x at 0 0;say b:x at 1440 1440;").alone(1), 1440);
        due("11", told(SETS_FULL).alone(5), 11);
        due("the last of ten", told("time x;" + times("sure s#:x at 0 9;", 9) + "say z:x at 10 10;").alone(9), 1);

        says(44, "1441: none;");
        due("the others quarrel still", n.alone(2), 1441);
        due("1441", told("time x;time y;sure c:x at 0 0 and y at 1440 1440;say b:x behind y 1 1;").alone(1), 1441);
        due("three", told("time x;say a:x at 0 0;say b:x at 5 5;say c:x at 9 9;").alone(1), 1441);

        says(44, "-3: SPENT;");
        due("alone(6)", told(SETS_SPENT).alone(6), -3);
        due("first WAYS are soon found", told(SPENT).alone(9), 0);

        says(44, "NONE: no SAYING told by say, it is DOUBTED.");
        due("a sure one", n.alone(3), -1);
        for (int k : noSuch(4)) {
            due("alone(" + k + ")", n.alone(k), -1);
        }
        n.doubt(1, true);
        due("DOUBTED", n.alone(1), -1);
        due("the other", n.alone(0), 0);
        due("a sure one while SPENT", told(SETS_SPENT).alone(0), -1);
        due("alone(7) while SPENT", told(SETS_SPENT).alone(7), -1);
        due("of nothing", new NightHours().alone(0), -1);
    }

    private void kept() {
        says(0, "KEPT: a WAY, if there are minutes for all TIMES that are not open so that, whatever each open one's distance of a .. b is (each by itself, "
            + "not known ahead), all that is chosen and MORE spans hold and all TIMES are 0 .. 1440.");
        NightHours n = told(MEAL);
        due("19: too narrow", n.kept(0), 0);
        due("20: just so", n.kept(1), 1);
        due("21", n.kept(2), 1);
        n.more(2, 0, 30, 30);
        due("with MORE that holds", n.kept(1), 1);
        n.fewer();
        n.more(2, 0, 31, 31);
        due("with MORE that does not", n.kept(1), 0);
        due("with MORE that holds with 21", n.kept(2), 1);
        n.fewer();
        n.more(2, 0, 29, 29);
        due("with MORE that does not", n.kept(2), 0);
        n.fewer();
        n.more(1, 0, 10, 30);
        due("with MORE of the distance itself", n.kept(1), 1);
        n.fewer();
        n.more(1, 0, 11, 30);
        due("with MORE narrower than the distance", n.kept(1), 0);
        due("though there are HOURS", n.ways(), 3);
        String open = "time go;time come;open come behind go 10 30;";
        n = told(open + "say s:go at 1410 1440 or go at 1411 1440;");
        due("within the night whatever comes", n.kept(0), 1);
        due("beyond the night at the worst", n.kept(1), 0);
        n = told(open + "say s:come at 30 1440 and go at 0 0 or come at 11 1440 and go at 0 0 or come at 10 30 and go at 0 0 or come at 10 29 and go at 0 0;");
        int[] want = {0, 0, 1, 0};
        for (int w = 0; w < 4; w++) {
            due("kept(" + w + ")", n.kept(w), want[w]);
        }
        n = told("time g;time x;time y;open x behind g 0 10;open y behind g 0 10;say s:y behind x -10 10 or y behind x -9 10 or y behind x -10 9;");
        due("each by itself, both ends", n.kept(0), 1);
        due("each by itself", n.kept(1), 0);
        due("each by itself", n.kept(2), 0);
        n = told("time g;time h;time x;time y;open x behind g 5 9;open y behind h 1 2;say s:x behind y 0 7 or x behind y 0 4 or x behind y 0 5;");
        due("behind two that can be chosen", n.kept(0), 1);
        due("behind two that can be chosen, too narrow", n.kept(1), 0);
        due("behind two that can be chosen, just so", n.kept(2), 1);
        n = told("time g;time x;open x behind g 7 7;say s:x at 7 7;");
        due("a distance of one minute alone", n.kept(0), 1);
        n = told("time g;time x;open x behind g 0 1440;say s:g at 0 1440;");
        due("a distance of the whole night", n.kept(0), 1);
        String walk = "who p;place a;place b;way a b 5;time g of p in a;time m of p in b;time x of p in a;open x behind g 10 20;";
        due("a MOVE that it may break", told(walk + "sure s:m behind g 24 24;").kept(0), 0);
        due("a MOVE that it can't break", told(walk + "sure s:m behind g 25 25;").kept(0), 1);
        due("between both", told(walk + "sure s:m behind g 5 5;").kept(0), 1);
        due("between both, too late", told(walk + "sure s:m behind g 6 14;").ways(), 1);
        due("between both, just in time", told(walk + "sure s:m behind g 5 14;").kept(0), 1);

        n = told(MEAL + "say t:meal behind come 0 5;");
        n.doubt(1, true);
        due("what is DOUBTED need not hold", n.kept(1), 1);
        due("what is DOUBTED need not hold", n.hand(1, 2), 30);
        // Behind ten SAYINGS and 41 MOVES: the last MOVE's TIMES, 8 open behind 9, are a minute's WALK apart.
        String most = MOST_MOVES.replace("si:ti at 20 20", "si:ta at 100 100");
        due("the last of 51 ITEMS holds at the worst", told(most + "open ti behind tj 1 11;").kept(0), 1);
        n = told(most + "open ti behind tj 0 11;");
        due("the last of 51 ITEMS can be", n.goes(0, 40), 1);
        due("the last of 51 ITEMS may be broken", n.kept(0), 0);

        says(45, "1 if WAY w is KEPT, else 0;");
        // Two of four WAYS have the choice that is not KEPT: each by itself, whichever was asked ahead.
        n = told("time g;time x;open x behind g 0 9;say s:x behind g 0 8 or x behind g 0 9;say t:g at 0 9 or g at 0 9;");
        int[][] order = {{3, 1}, {0, 0}, {1, 0}, {0, 0}, {2, 1}, {1, 0}, {3, 1}, {0, 0}, {0, 0}};
        for (int[] w : order) {
            due("kept(" + w[0] + ")", n.kept(w[0]), w[1]);
        }
        due("without an open one", told(TWO).kept(1), 1);
        due("without anything", new NightHours().kept(0), 1);
        due("0", told(MEAL).kept(0), 0);

        says(45, "-3: SPENT;");
        for (int w : new int[] {0, 1, 1000, HIGH}) {
            due("kept(" + w + ")", told(SPENT).kept(w), -3);
        }

        says(45, "NONE: no such one.");
        n = told(MEAL);
        for (int w : noSuch(3)) {
            due("kept(" + w + ")", n.kept(w), -1);
        }
        due("kept(-1) while SPENT", told(SPENT).kept(-1), -1);
        due("without a WAY", told(NO_WAY).kept(0), -1);
        due("an open one of none", told("time x;time y;open x behind y 2 1;").kept(0), -1);
    }

    private void keep() {
        says(46, "The first WAY that is KEPT;");
        NightHours n = told(MEAL);
        due("not the first of all", n.keep(), 1);
        n.more(2, 0, 31, 31);
        due("the last", n.keep(), 2);
        due("without an open one", told(TWO).keep(), 0);
        due("without anything", new NightHours().keep(), 0);

        says(46, "-2: none;");
        n.fewer();
        n.more(1, 0, 11, 30);
        due("none of three", n.keep(), -2);
        due("without a WAY", told(NO_WAY).keep(), -2);
        due("without HOURS", moreOfNone("time x;").keep(), -2);
        due("an open one of none", told("time x;time y;open x behind y 2 1;").keep(), -2);

        says(46, "-3: SPENT.");
        due("keep()", told(SPENT).keep(), -3);
    }

    private void hand() {
        says(0, "The HAND of a KEPT WAY: the least such minute of each.");
        NightHours n = told(MEAL);
        due("the meal of WAY 1", n.hand(1, 2), 30);
        due("the meal of WAY 2", n.hand(2, 2), 30);
        due("the meal's least minute otherwise", n.hour(1, 2, false), 10);
        n.more(0, -1, 100, 200);
        due("going", n.hand(1, 0), 100);
        due("the meal", n.hand(1, 2), 130);
        n = told("time g;time h;time x;time y;time z;open x behind g 5 9;open y behind h 1 2;sure s:x behind y 0 7;sure t:z behind x 1 1440;");
        // x less y is g - h + 3 .. g - h + 8, so g less h is -3 .. -1; z is behind x at its latest.
        due("g", n.hand(0, 0), 0);
        due("h", n.hand(0, 1), 1);
        due("z", n.hand(0, 4), 10);
        due("all of the night is left", told("time g;time x;open x behind g 0 1440;").hand(0, 0), 0);

        says(47, "The HAND of WAY w for a TIME;");
        n = told(MEAL);
        due("the meal, come being open", n.hand(1, 2), 30);
        tell(n, MEAL.replace("open come behind go 10 30;", ""));
        due("the meal of a text in which it is not", n.hand(1, 2), 0);
        due("come itself", n.hand(1, 1), 0);
        due("without an open one as hour()", told(TWO).hand(1, 0), 610);
        n = told(MEAL);
        due("going", n.hand(1, 0), 0);
        n = told("time x;time y;open y behind x 5 5;sure s:x at 1435 1435;");
        due("at the night's end", n.hand(0, 0), 1435);

        says(47, "-3: SPENT;");
        for (int w : new int[] {0, 1, 1000, HIGH}) {
            due("hand(" + w + ", 0)", told(SPENT).hand(w, 0), -3);
        }
        due("an open one while SPENT", told(SPENT + "open y behind x 0 9;").hand(0, 1), -3);

        says(47, "NONE: no such ones, it is not KEPT;");
        n = told(MEAL);
        for (int t = 0; t < 3; t++) {
            due("hand(0, " + t + ") of what is not KEPT", n.hand(0, t), -1);
        }
        for (int w : noSuch(3)) {
            due("hand(" + w + ", 0)", n.hand(w, 0), -1);
            due("hand(" + w + ", 1), an open one", n.hand(w, 1), -1);
        }
        for (int t : noSuch(3)) {
            due("hand(1, " + t + ")", n.hand(1, t), -1);
        }
        due("hand(-1, 0) while SPENT", told(SPENT).hand(-1, 0), -1);
        due("hand(0, 2) while SPENT", told(SPENT).hand(0, 2), -1);
        due("without a WAY", told(NO_WAY).hand(0, 0), -1);

        says(47, "else -2: that TIME is open.");
        due("hand(1, 1)", n.hand(1, 1), -2);
        due("hand(2, 1)", n.hand(2, 1), -2);
        NightHours four = told("time g;" + times("time t#;", 4) + times("open t# behind g 1 2;", 4));
        for (int t = 1; t <= 4; t++) {
            due("hand(0, " + t + ") of four", four.hand(0, t), -2);
        }
        due("hand(0, 0) of four", four.hand(0, 0), 0);
    }
}
