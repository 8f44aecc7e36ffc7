/** HOURS, WALKS, MOVES, ITEMS, WAYS, GOING THROUGH, what is SET and PICKED: promises 6 to 19, 26 to 29, 37 to 42 and 48. */
final class NightBoundaries extends Boundaries {
    /** Four WAYS, one a choice. */
    private static final String FOUR = "time x;say s:x at 50 60 or x at 5 6 or x at 70 80 or x at 30 40;";
    private static final String NO_WAY = "time x;say s:x at 2 1;ask q:x at 1 1;";

    @Override
    void run() {
        hoursAndWalks();
        moves();
        items();
        goingThrough();
        spentAnswers();
        doubting();
        walking();
        moving();
        countingWays();
        choosing();
        going();
        hours();
        gaps();
        ends();
        cans();
        forced();
        setting();
        bearing();
        breaking();
        picking();
        standing();
        rings();
        more();
        fewer();
        tried();
        setWays();
        slacks();
        drawn();
        counting();
    }

    private void hoursAndWalks() {
        says(0, "HOURS: for each TIME a minute 0 .. 1440.");
        NightHours n = told("time x;");
        due("the least", n.hour(0, 0, false), 0);
        due("the greatest", n.hour(0, 0, true), 1440);
        n = told("time x;time y;say s:x behind y 1440 1440;");
        due("ways()", n.ways(), 1);
        due("x", n.hour(0, 0, false), 1440);
        due("y", n.hour(0, 1, true), 0);
        due("y at 1 and x 1440 behind it", told("time x;time y;say s:x behind y 1440 1440 and y at 1 1;").ways(), 0);
        due("a chain longer than the night", told("time x;time y;time z;say s:x behind y 720 720 and y behind z 721 721;").ways(), 0);
        due("a chain as long as the night", told("time x;time y;time z;say s:x behind y 720 720 and y behind z 720 720;").ways(), 1);

        says(0, "A WALK between two PLACES: the least sum of minutes of ways (both directions) from one to the other;");
        n = told("place a;place b;place c;way a b 100;way c a 30;way c b 30;");
        due("by the third PLACE", n.walk(0, 1), 60);
        due("by the third PLACE, back", n.walk(1, 0), 60);
        due("as long by both", told("place a;place b;place c;way a b 60;way c a 30;way c b 30;").walk(0, 1), 60);
        due("the shorter is the direct one", told("place a;place b;place c;way a b 59;way c a 30;way c b 30;").walk(0, 1), 59);
        due("the least of several ways", told("place a;place b;way a b 9;way b a 7;way a b 8;").walk(0, 1), 7);
        due("the least of several ways, the first", told("place a;place b;way a b 7;way b a 9;").walk(1, 0), 7);
        due("a way of 0", told("place a;place b;way a b 0;").walk(1, 0), 0);
        due("a way of 0 and then a longer one", told("place a;place b;way a b 0;way a b 5;way b a 6;").walk(0, 1), 0);
        for (String text : new String[] {"way a b 0;way b c 5;", "way a b 5;way b c 0;", "way b a 0;way a c 5;", "way b a 5;way a c 0;", "way c a 5;way c b 0;", "way c a 0;way c b 5;"}) {
            NightHours by = told("place a;place b;place c;" + text);
            due("the sum of 0 and 5 by " + text, by.walk(0, 1) + by.walk(1, 2) + by.walk(2, 0), 10);
        }
        due("by PLACE 0", told("place a;place b;place c;way b a 5;way a c 6;").walk(1, 2), 11);
        n = told(times("place p#;", 6) + "way pa pf 1;way pf pb 2;way pb pe 4;way pe pc 8;way pc pd 16;");
        due("over all six", n.walk(0, 3), 31);
        due("over all six, back", n.walk(3, 0), 31);
        due("a part of them", n.walk(4, 5), 6);
        n = told(times("place p#;", 6) + "way pa pf 1440;way pf pb 1440;way pb pe 1440;way pe pc 1440;way pc pd 1440;");
        due("longer than the night", n.walk(0, 3), 7200);
        n = told("place a;place b;place c;place d;way a b 5;way c d 6;");

        says(0, "none, if there are none.");
        due("walk(0, 2)", n.walk(0, 2), -2);
        due("walk(3, 1)", n.walk(3, 1), -2);
        due("walk(2, 3)", n.walk(2, 3), 6);
        due("without any way", told("place a;place b;").walk(0, 1), -2);
        n = told("place a;place b;way a b 5;");
        tell(n, "place a;place b;");
        due("a way of the text ahead is gone", n.walk(0, 1), -2);
    }

    private void moves() {
        says(0, "A MOVE is of two TIMES of one PERSON in two PLACES:");
        NightHours n = told("who p;who q;place a;place b;way a b 5;time t of p in a;time u of p in a;time v of q in b;time w;time x of p in b;time y;");
        due("MOVES", n.count(5), 2);
        int[][] want = {{0, 4, 5}, {1, 4, 5}};
        for (int k = 0; k < 2; k++) {
            for (int what = 0; what < 3; what++) {
                due("move(" + k + ", " + what + ")", n.move(k, what), want[k][what]);
            }
        }
        due("as many as there can be", told(MOST_MOVES).count(5), 41);

        String walk = "who p;place a;place b;way a b 20;time x of p in a;time y of p in b;";
        says(0, "choice 0: the one with the greater number is at least the WALK behind the other;");
        n = told(walk);
        due("goes(0, 0)", n.goes(0, 0), 0);
        due("y less x", n.gap(0, 1, 0, false), 20);
        due("y less x, the most", n.gap(0, 1, 0, true), 1440);
        due("just the WALK", told(walk + "sure s:x at 100 100 and y at 120 120;").ways(), 1);
        due("just the WALK goes", told(walk + "sure s:x at 100 100 and y at 120 120;").goes(0, 0), 0);
        due("a minute less", told(walk + "sure s:x at 100 100 and y at 119 119;").ways(), 0);

        says(0, "choice 1: the other way round;");
        due("goes(1, 0)", n.goes(1, 0), 1);
        due("x less y", n.gap(1, 0, 1, false), 20);
        due("just the WALK", told(walk + "sure s:x at 100 100 and y at 80 80;").ways(), 1);
        due("just the WALK goes", told(walk + "sure s:x at 100 100 and y at 80 80;").goes(0, 0), 1);
        due("a minute less", told(walk + "sure s:x at 100 100 and y at 81 81;").ways(), 0);
        due("both, with a WALK of 0", told(walk.replace("20", "0") + "sure s:x at 100 100 and y at 100 100;").ways(), 2);
        due("a WALK as long as the night", told(walk.replace("20", "1440")).ways(), 2);

        says(0, "without a WALK it has no choice.");
        n = told(walk.replace("way a b 20;", ""));
        due("ways()", n.ways(), 0);
        due("TRIES", n.count(6), 0);
        n = told(walk.replace("way a b 20;", "") + "say s:x at 1 1 or x at 2 2;");
        due("TRIES of the ITEM ahead", n.count(6), 2);
        due("ways()", n.ways(), 0);
        n = told("who p;place a;place b;place c;way a c 1440;way c b 1;time x of p in a;time y of p in b;");
        due("a WALK longer than the night has choices", n.count(6), 2);
        due("a WALK longer than the night", n.ways(), 0);

        says(0, "MOVES are numbered from 0 on by their lesser TIME, then by the other.");
        n = told("who p;who q;place a;place b;place c;way a b 10;way b c 5;time u;time v of q in a;time w of p in a;time x of p in b;time y of p in a;"
            + "time z of p in c;time zz of q in c;");
        int[][] six = {{1, 6, 15}, {2, 3, 10}, {2, 5, 15}, {3, 4, 10}, {3, 5, 5}, {4, 5, 15}};
        for (int k = 0; k < 6; k++) {
            for (int what = 0; what < 3; what++) {
                due("move(" + k + ", " + what + ")", n.move(k, what), six[k][what]);
            }
        }
    }

    private void items() {
        says(0, "ITEMS: SAYINGS that are not DOUBTED, by numbers;");
        String text = "who p;place a;place b;way a b 20;time x of p in a;time y of p in b;say s:x at 0 0;sure t:y at 20 20;say u:x at 0 9;";
        NightHours n = told(text);
        int[] order = {0, 1, 2, 100, 100};
        for (int i = 0; i < order.length; i++) {
            due("ITEM of TRY " + i, n.tried(i, 0), order[i]);
        }
        n.doubt(0, true);
        due("ITEM of the first TRY without SAYING 0", n.tried(0, 0), 1);
        n.doubt(2, true);
        due("ITEM of the second TRY with one SAYING alone", n.tried(1, 0), 100);
        due("the hour that a DOUBTED one told", n.hour(0, 0, true), 0);
        due("WAYS with y alone told", n.ways(), 2);

        says(0, "each has its ALLS as choices (0, 1, ..), of which all SPANS must hold;");
        n = told("time x;time y;say s:x at 0 9 and x at 5 20 and x at 0 7 or x at 8 8 or x behind y 1 1 and y at 3 3 and x at 5 9 or x at 3 5 and y at 7 7;");
        due("ways()", n.ways(), 3);
        int[] choices = {0, 1, 3};
        int[][] hours = {{5, 7}, {8, 8}, {3, 5}};
        for (int w = 0; w < 3; w++) {
            due("choice(" + w + ", 0)", n.choice(w, 0), choices[w]);
            due("hour(" + w + ", 0, false)", n.hour(w, 0, false), hours[w][0]);
            due("hour(" + w + ", 0, true)", n.hour(w, 0, true), hours[w][1]);
        }

        says(0, "then MOVES.");
        due("ITEM of the last TRY", told(text).tried(4, 0), 100);
        due("no more of them", told(text).tried(5, 0), -1);

        says(0, "Always, too: of an open TIME x behind y a b: x less y is a .. b;");
        n = told("time x;time y;open x behind y 5 9;");
        due("the least", n.gap(0, 0, 1, false), 5);
        due("the greatest", n.gap(0, 0, 1, true), 9);
        due("y's greatest", n.hour(0, 1, true), 1435);
        n.more(0, 1, 9, 9);
        due("at its edge", n.ways(), 1);
        n.fewer();
        n.more(0, 1, 10, 10);
        due("beyond its edge", n.ways(), 0);
        due("beyond its edge there are no HOURS", n.stands(), 0);
        due("of 1440", told("time x;time y;open x behind y 1440 1440;").hour(0, 0, false), 1440);

        says(0, "MORE spans (told by more(), 6 at most).");
        n = told("time x;time y;");
        for (int i = 1; i <= 6; i++) {
            due("more() " + i, n.more(0, -1, i, 100 - i), i);
            due("the least", n.hour(0, 0, false), i);
            due("the greatest", n.hour(0, 0, true), 100 - i);
        }
        due("a seventh", n.more(0, -1, 7, 7), -1);
        due("the least", n.hour(0, 0, false), 6);

        says(0, "A WAY: a choice for each ITEM so that there are HOURS with which all that is chosen holds (and what is open).");
        n = told("time x;time y;time z;say a:x behind y 5 5;say b:y behind z 5 5;say c:x behind z 9 9 or x behind z 10 10;");
        due("each two can be, all three in one WAY alone", n.ways(), 1);
        due("that one", n.choice(0, 2), 1);
        n = told("time x;time y;open x behind y 5 9;say s:x behind y 0 4 or x behind y 9 20 or x behind y 10 20;");
        due("with what is open", n.ways(), 1);
        due("with what is open", n.choice(0, 0), 1);
        due("without ITEMS", told("time x;").ways(), 1);
    }

    private void goingThrough() {
        says(0, "GOING THROUGH: ITEM by ITEM, its choices from 0 on; each choice that is taken up is a TRY; if there are HOURS with it and those "
            + "chosen ahead, the next ITEM, else its next choice; with the last ITEM that is a WAY; behind the last choice back to the ITEM ahead.");
        NightHours n = told("time x;say a:x at 0 5 or x at 6 9;say b:x at 7 7 or x at 5 5 or x at 6 6;");
        int[][] tries = {{0, 0, 1}, {1, 0, 0}, {1, 1, 1}, {1, 2, 0}, {0, 1, 1}, {1, 0, 1}, {1, 1, 0}, {1, 2, 1}};
        due("TRIES", n.count(6), 8);
        for (int i = 0; i < tries.length; i++) {
            for (int what = 0; what < 3; what++) {
                due("tried(" + i + ", " + what + ")", n.tried(i, what), tries[i][what]);
            }
        }
        due("ways()", n.ways(), 3);
        n = told("time x;say a:x at 2 1 or x at 2 1;say b:x at 0 9;");
        due("TRIES where the first ITEM has no HOURS", n.count(6), 2);

        says(0, "(If there are no HOURS even without ITEMS, there is no WAY and no TRY.)");
        n = told("time x;time y;open x behind y 2 1;say s:x at 0 9 or x at 0 9;");
        due("ways() with an open one of none", n.ways(), 0);
        due("TRIES", n.count(6), 0);
        n = told("time x;time y;open x behind y 2 3;" + times("say s#:x at 0 9 or x at 0 9;", 10));
        due("SPENT before", n.ways(), -3);
        n.more(1, 0, 0, 5);
        due("ways() with MORE against what is open", n.ways(), 0);
        due("TRIES", n.count(6), 0);
        due("tried(0, 0)", n.tried(0, 0), -1);
        due("without ITEMS", told("time x;time y;open x behind y 2 1;").ways(), 0);
        due("TRIES without ITEMS", told("time x;").count(6), 0);

        says(0, "With TRY 1,001 it is SPENT.");
        // 4 + 12 + 24 + 96 + 288 + 576 = 1,000.
        n = told("time x;" + alike("say", "s", 4, 3, 2, 4, 3, 2));
        due("WAYS with 1,000 TRIES", n.ways(), 576);
        due("1,000 TRIES", n.count(6), 1000);
        due("the last WAY", n.choice(575, 5), 1);
        due("behind the last WAY", n.choice(576, 5), -1);
        n = told("time x;" + alike("sure", "t", 1) + alike("say", "s", 4, 3, 2, 4, 3, 2));
        due("WAYS with 1,001 TRIES", n.ways(), -3);
        due("1,001 TRIES", n.count(6), 1001);
        String none = "say z:x at 20 30 or x at 20 30;";
        n = told("time x;" + alike("say", "s", 4, 3, 2, 4, 3) + none);
        due("no WAY in 1,000 TRIES", n.ways(), 0);
        due("1,000 TRIES", n.count(6), 1000);
        n = told("time x;" + alike("sure", "t", 1) + alike("say", "s", 4, 3, 2, 4, 3) + none);
        due("no WAY in 1,001 TRIES", n.ways(), -3);
        due("1,001 TRIES", n.count(6), 1001);
        due("many more TRIES", told(SPENT).count(6), 1001);

        says(0, "WAYS are numbered from 0 on as they are found so.");
        n = told("time x;" + alike("say", "s", 2, 3, 4));
        for (int w = 0; w < 24; w++) {
            due("choice(" + w + ", 0)", n.choice(w, 0), w / 12);
            due("choice(" + w + ", 1)", n.choice(w, 1), w / 4 % 3);
            due("choice(" + w + ", 2)", n.choice(w, 2), w % 4);
        }
        due("choice(23, 0) and back to WAY 0", n.choice(0, 0), 0);
        due("hour(0, 0, true)", n.hour(0, 0, true), 9);
    }

    private void spentAnswers() {
        says(0, "All answers that need GOING THROUGH are SPENT if it is.");
        NightHours n = told(SPENT);
        int[] spent = {n.ways(), n.choice(0, 0), n.choice(999, 9), n.goes(0, 0), n.hour(0, 0, true), n.hour(HIGH, 0, true), n.ends(0, false), n.can(0, 0),
            n.forced(0), n.could(0, 0, 0, 1440), n.been(0, 0, true), n.ask(0, true), n.ask(0, false), n.next(), n.left(0, 0), n.plan(0), n.plan(1000),
            n.first(0), n.setWays(), n.slack(0, 0, true), n.drawn(0, 0, 0), n.kept(0), n.keep(), n.hand(0, 0)};
        for (int i = 0; i < spent.length; i++) {
            due("answer " + i + " of those that need it", spent[i], -3);
        }
        due("gap(0, 0, 1, true)", n.gap(0, 0, 1, true), -10000);
        int[] others = {n.walk(0, 1), n.move(0, 1), n.bears(0), n.breaks(), n.quarrels(), n.givingUps(), n.givingUp(0), n.cheapest(), n.price(), n.stands(), n.ring(),
            n.give(), n.alone(9), n.count(5), n.count(19), n.more(0, -1, 0, 1440), n.fewer()};
        int[] want = {0, 1, -4, -2, 0, 1, 0, 0, 0, 1, -2, 0, 0, 1, 2, 1, 0};
        for (int i = 0; i < want.length; i++) {
            due("answer " + i + " of those that do not", others[i], want[i]);
        }
        n.doubt(9, true);
        n.doubt(8, true);
        due("510 TRIES of SAYINGS and 512 of the MOVE", n.ways(), -3);
        n.doubt(7, true);
        due("254 TRIES of SAYINGS and 256 of the MOVE", n.count(6), 510);
        due("WAYS, no more SPENT", n.ways(), 256);
        n.doubt(8, false);
        due("SPENT again", n.ways(), -3);
        due("SPENT again", n.hour(0, 0, true), -3);
    }

    private void doubting() {
        says(6, "A SAYING told by say becomes DOUBTED or not: true;");
        NightHours n = told(TWO);
        due("doubt(1, false), which is not DOUBTED", n.doubt(1, false), true);
        due("forced(1)", n.forced(1), -2);
        due("doubt(1, true)", n.doubt(1, true), true);
        due("forced(1) DOUBTED", n.forced(1), -1);
        due("doubt(1, true) again", n.doubt(1, true), true);
        due("forced(1) DOUBTED still", n.forced(1), -1);
        due("doubt(1, false)", n.doubt(1, false), true);
        due("forced(1)", n.forced(1), -2);
        n = told("time x;" + times("say s#:x at 0 9;", 10));
        for (int k = 9; k >= 0; k--) {
            due("doubt(" + k + ", true)", n.doubt(k, true), true);
            due("the others are not", n.count(6), k);
        }
        due("WAYS with all DOUBTED", n.ways(), 1);
        due("hour(0, 0, true)", n.hour(0, 0, true), 1440);

        says(6, "false: no such one.");
        n = told(TWO);
        due("doubt of a sure one", n.doubt(0, true), false);
        due("doubt of a sure one", n.doubt(0, false), false);
        due("it is not DOUBTED", n.forced(0), 0);
        for (int k : noSuch(3)) {
            due("doubt(" + k + ", true)", n.doubt(k, true), false);
            due("doubt(" + k + ", false)", n.doubt(k, false), false);
        }
        due("ways() as ever", n.ways(), 2);
        due("TRIES as ever", n.count(6), 9);
    }

    private void walking() {
        says(7, "The WALK between two PLACES (0 of one and itself);");
        NightHours n = told("place a;place b;place c;way a b 5;");
        for (int a = 0; a < 3; a++) {
            due("walk(" + a + ", " + a + ")", n.walk(a, a), 0);
        }
        due("walk(0, 1)", n.walk(0, 1), 5);
        due("walk(1, 0)", n.walk(1, 0), 5);

        says(7, "-2: none;");
        due("walk(0, 2)", n.walk(0, 2), -2);
        due("walk(2, 1)", n.walk(2, 1), -2);

        says(7, "NONE: no such ones.");
        for (int a : noSuch(3)) {
            due("walk(" + a + ", 0)", n.walk(a, 0), -1);
            due("walk(0, " + a + ")", n.walk(0, a), -1);
            due("walk(" + a + ", " + a + ")", n.walk(a, a), -1);
        }
        n = told(times("place p#;", 6));
        due("walk(5, 5)", n.walk(5, 5), 0);
        due("walk(6, 6)", n.walk(6, 6), -1);
        due("walk(0, 6)", n.walk(0, 6), -1);
        due("walk(-1, 6)", n.walk(-1, 6), -1);
    }

    private void moving() {
        says(8, "Of a MOVE: what 0 its lesser TIME, 1 the other, 2 the WALK (-2: none);");
        NightHours n = told("who p;place a;place b;place c;way a b 7;time w;time x of p in a;time y of p in b;time z of p in c;");
        int[][] want = {{1, 2, 7}, {1, 3, -2}, {2, 3, -2}};
        for (int k = 0; k < 3; k++) {
            for (int what = 0; what < 3; what++) {
                due("move(" + k + ", " + what + ")", n.move(k, what), want[k][what]);
            }
        }
        NightHours most = told(MOST_MOVES);
        due("move(40, 0)", most.move(40, 0), 8);
        due("move(40, 1)", most.move(40, 1), 9);
        due("move(40, 2)", most.move(40, 2), 1);

        says(8, "NONE: no such ones.");
        for (int k : noSuch(3)) {
            for (int what = -1; what <= 3; what++) {
                due("move(" + k + ", " + what + ")", n.move(k, what), -1);
            }
        }
        for (int what : noSuch(3)) {
            due("move(0, " + what + ")", n.move(0, what), -1);
        }
        due("move(41, 0)", most.move(41, 0), -1);
        due("move(45, 0)", most.move(45, 0), -1);
        due("without MOVES", told("time x;").move(0, 0), -1);
    }

    private void countingWays() {
        says(9, "How many WAYS there are;");
        due("none", told(NO_WAY).ways(), 0);
        due("one without ITEMS", new NightHours().ways(), 1);
        due("two", told(TWO).ways(), 2);
        due("choices that mean the same are several", told("time x;say s:x at 1 1 or x at 1 1 or x at 1 1 or x at 1 1;").ways(), 4);
        due("ten SAYINGS and 41 MOVES", told(MOST_MOVES).ways(), 1);

        says(9, "-3: SPENT.");
        due("ways()", told(SPENT).ways(), -3);
    }

    private void choosing() {
        says(10, "The choice of a SAYING (k its number) in WAY w;");
        NightHours n = told("time x;" + times("say s#:x at 2 1 or x at 2 1 or x at 2 1 or x at 0 9;", 10));
        for (int k = 0; k < 10; k++) {
            due("choice(0, " + k + ")", n.choice(0, k), 3);
        }
        n = told(FOUR);
        for (int round = 0; round < 2; round++) {
            for (int w = 0; w < 4; w++) {
                due("choice(" + w + ", 0)", n.choice(w, 0), w);
            }
            n.more(0, -1, 65, 1440);
            due("choice(0, 0) with MORE, the only one left", n.choice(0, 0), 2);
            due("choice(1, 0) with MORE", n.choice(1, 0), -1);
            n.fewer();
        }
        n = told(TWO);
        due("choice of a sure one", n.choice(1, 0), 0);

        says(10, "-2: it is DOUBTED;");
        n.doubt(1, true);
        due("choice(0, 1)", n.choice(0, 1), -2);
        due("choice(1, 1)", n.choice(1, 1), -2);
        due("choice(0, 1) where there is no such WAY", n.choice(2, 1), -1);
        due("choice of the other", n.choice(1, 2), 0);
        NightHours all = told("time x;say s:x at 0 9;");
        all.doubt(0, true);
        due("choice(0, 0) without any ITEM", all.choice(0, 0), -2);

        says(10, "-3: SPENT;");
        NightHours spent = told(SPENT);
        for (int w : new int[] {0, 1, 1000, HIGH}) {
            due("choice(" + w + ", 0)", spent.choice(w, 0), -3);
        }

        says(10, "NONE: no such ones.");
        n = told(TWO);
        for (int w : noSuch(2)) {
            due("choice(" + w + ", 0)", n.choice(w, 0), -1);
        }
        for (int k : noSuch(3)) {
            due("choice(0, " + k + ")", n.choice(0, k), -1);
        }
        for (int k : noSuch(10)) {
            due("choice(0, " + k + ") while SPENT", spent.choice(0, k), -1);
        }
        for (int w : new int[] {-1, -2, LOW}) {
            due("choice(" + w + ", 0) while SPENT", spent.choice(w, 0), -1);
        }
        due("without a WAY", told(NO_WAY).choice(0, 0), -1);
    }

    private void going() {
        says(11, "Likewise of a MOVE.");
        NightHours n = told(TWO);
        for (int round = 0; round < 2; round++) {
            due("goes(0, 0)", n.goes(0, 0), 0);
            due("goes(1, 0)", n.goes(1, 0), 1);
            n.more(0, -1, 600, 1440);
            due("goes(0, 0) with MORE", n.goes(0, 0), 1);
            n.fewer();
        }
        for (int w : noSuch(2)) {
            due("goes(" + w + ", 0)", n.goes(w, 0), -1);
        }
        for (int k : noSuch(1)) {
            due("goes(0, " + k + ")", n.goes(0, k), -1);
        }
        n = told(MOST_MOVES);
        for (int k = 0; k < 41; k++) {
            due("goes(0, " + k + "), all fall", n.goes(0, k), 1);
        }
        due("goes(0, 41)", n.goes(0, 41), -1);
        // The last two TIMES the other way round: MOVE 40 alone is another one.
        n = told(MOST_MOVES.replace("si:ti at 20 20", "si:ti at 10 10").replace("sj:tj at 10 10", "sj:tj at 20 20"));
        due("goes(0, 40)", n.goes(0, 40), 0);
        due("goes(0, 39)", n.goes(0, 39), 1);
        due("goes(0, 8)", n.goes(0, 8), 1);
        NightHours spent = told(SPENT);
        for (int w : new int[] {0, 1, 1000, HIGH}) {
            due("goes(" + w + ", 0) while SPENT", spent.goes(w, 0), -3);
        }
        due("goes(0, 1) while SPENT", spent.goes(0, 1), -1);
        due("goes(-1, 0) while SPENT", spent.goes(-1, 0), -1);
        due("without a WAY", told(TWO + "sure no:x at 1 0;").goes(0, 0), -1);
    }

    private void hours() {
        says(12, "The least (most: the greatest) minute of a TIME in WAY w;");
        NightHours n = told(TWO);
        int[][] want = {{540, 570}, {590, 610}, {600, 600}, {610, 650}, {590, 610}, {600, 600}};
        for (int i = 0; i < 6; i++) {
            due("hour(" + i / 3 + ", " + i % 3 + ", false)", n.hour(i / 3, i % 3, false), want[i][0]);
            due("hour(" + i / 3 + ", " + i % 3 + ", true)", n.hour(i / 3, i % 3, true), want[i][1]);
        }
        n = told(times("time t#;", 10));
        due("hour(0, 9, false)", n.hour(0, 9, false), 0);
        due("hour(0, 9, true)", n.hour(0, 9, true), 1440);

        says(12, "-3: SPENT;");
        n = told(SPENT);
        for (int w : new int[] {0, 1, 1000, HIGH}) {
            due("hour(" + w + ", 1, false)", n.hour(w, 1, false), -3);
        }

        says(12, "NONE: no such ones.");
        due("hour(-1, 0, true) while SPENT", n.hour(-1, 0, true), -1);
        due("hour(0, 2, true) while SPENT", n.hour(0, 2, true), -1);
        n = told(TWO);
        for (int w : noSuch(2)) {
            due("hour(" + w + ", 0, false)", n.hour(w, 0, false), -1);
        }
        for (int t : noSuch(3)) {
            due("hour(0, " + t + ", true)", n.hour(0, t, true), -1);
        }
        due("without a WAY", told(NO_WAY).hour(0, 0, true), -1);
    }

    private void gaps() {
        says(13, "The least (most: the greatest) of TIME x less TIME y in WAY w;");
        NightHours n = told(TWO);
        int[][] want = {{0, 0, 1, -70, -20}, {0, 1, 0, 20, 70}, {1, 0, 1, 20, 60}, {1, 2, 0, -50, -10}, {0, 2, 2, 0, 0}, {1, 0, 0, 0, 0}};
        for (int[] g : want) {
            due("gap(" + g[0] + ", " + g[1] + ", " + g[2] + ", false)", n.gap(g[0], g[1], g[2], false), g[3]);
            due("gap(" + g[0] + ", " + g[1] + ", " + g[2] + ", true)", n.gap(g[0], g[1], g[2], true), g[4]);
        }
        n = told("time x;time y;");
        due("the least there is", n.gap(0, 0, 1, false), -1440);
        due("the greatest there is", n.gap(0, 0, 1, true), 1440);

        says(13, "-10000: SPENT, no such ones.");
        n = told(TWO);
        for (int w : noSuch(2)) {
            due("gap(" + w + ", 0, 1, true)", n.gap(w, 0, 1, true), -10000);
        }
        for (int t : noSuch(3)) {
            due("gap(0, " + t + ", 0, true)", n.gap(0, t, 0, true), -10000);
            due("gap(0, 0, " + t + ", false)", n.gap(0, 0, t, false), -10000);
        }
        n = told(SPENT);
        due("gap(0, 0, 1, true) while SPENT", n.gap(0, 0, 1, true), -10000);
        due("gap(-1, 0, 1, true) while SPENT", n.gap(-1, 0, 1, true), -10000);
        due("without a WAY", told(NO_WAY).gap(0, 0, 0, true), -10000);
    }

    private void ends() {
        says(14, "The least (most: the greatest) minute of a TIME in all WAYS;");
        NightHours n = told(FOUR);
        due("ends(0, false)", n.ends(0, false), 5);
        due("ends(0, true)", n.ends(0, true), 80);
        n = told("time x;");
        due("ends(0, false) of all hours", n.ends(0, false), 0);
        due("ends(0, true) of all hours", n.ends(0, true), 1440);
        n = told("time x;say s:x at 0 0;");
        due("ends(0, true) at minute 0", n.ends(0, true), 0);

        says(14, "-2: no WAY;");
        due("ends(0, false)", told(NO_WAY).ends(0, false), -2);
        due("ends(0, true)", told(NO_WAY).ends(0, true), -2);

        says(14, "-3: SPENT;");
        due("ends(0, false)", told(SPENT).ends(0, false), -3);
        due("ends(1, true)", told(SPENT).ends(1, true), -3);

        says(14, "NONE: no such TIME.");
        for (int t : noSuch(1)) {
            due("ends(" + t + ", false)", n.ends(t, false), -1);
            due("ends(" + t + ", true) without a WAY", told(NO_WAY).ends(t, true), -1);
        }
        due("ends(2, true) while SPENT", told(SPENT).ends(2, true), -1);
    }

    private void cans() {
        says(15, "In how many WAYS a TIME can be at a minute (0 .. 1440);");
        NightHours n = told("time x;say s:x at 0 9 or x at 5 20 or x at 9 9 or x at 30 1440;");
        int[][] want = {{0, 1}, {4, 1}, {5, 2}, {8, 2}, {9, 3}, {10, 1}, {20, 1}, {21, 0}, {29, 0}, {30, 1}, {1440, 1}};
        for (int[] w : want) {
            due("can(0, " + w[0] + ")", n.can(0, w[0]), w[1]);
        }
        due("without a WAY", told(NO_WAY).can(0, 1), 0);

        says(15, "-3: SPENT;");
        due("can(0, 0)", told(SPENT).can(0, 0), -3);
        due("can(1, 1440)", told(SPENT).can(1, 1440), -3);

        says(15, "NONE: no such ones.");
        for (int t : noSuch(1)) {
            due("can(" + t + ", 0)", n.can(t, 0), -1);
        }
        for (int m : noMinute()) {
            due("can(0, " + m + ")", n.can(0, m), -1);
            due("can(0, " + m + ") while SPENT", told(SPENT).can(0, m), -1);
        }
        due("can(1, 0) without a WAY", told(NO_WAY).can(1, 0), -1);
        due("can(2, 0) while SPENT", told(SPENT).can(2, 0), -1);
    }

    private void forced() {
        says(16, "The choice that a SAYING has in all WAYS;");
        NightHours n = told("time x;time y;say a:x at 5 4 or x at 1 1 or x at 2 1 or x at 3 1;say b:y at 0 9 or y at 0 9;sure c:x at 2 2 or x at 0 1;");
        due("forced(0), of two WAYS", n.forced(0), 1);
        due("forced(2), a sure one", n.forced(2), 1);
        due("of one WAY, the last choice", told("time x;say s:x at 2 1 or x at 2 1 or x at 2 1 or x at 0 9;").forced(0), 3);

        says(16, "-2: there are several, or no WAY;");
        due("forced(1)", n.forced(1), -2);
        due("several, the last alone another", told("time x;say a:x at 0 0 or x at 1 1;say b:x at 0 1 or x at 0 0;").forced(0), -2);
        due("several, the first alone another", told("time x;say a:x at 0 0 or x at 1 1;say b:x at 0 1 or x at 1 1;").forced(0), -2);
        due("no WAY", told(NO_WAY).forced(0), -2);

        says(16, "-3: SPENT;");
        due("forced(0)", told(SPENT).forced(0), -3);
        due("forced(9)", told(SPENT).forced(9), -3);

        says(16, "NONE: no such one, it is DOUBTED.");
        for (int k : noSuch(3)) {
            due("forced(" + k + ")", n.forced(k), -1);
        }
        n.doubt(0, true);
        due("forced(0) DOUBTED", n.forced(0), -1);
        due("forced(2)", n.forced(2), -2);
        NightHours spent = told(SPENT);
        spent.doubt(0, true);
        due("DOUBTED while SPENT", spent.forced(0), -1);
        due("forced(10) while SPENT", spent.forced(10), -1);
        NightHours none = told(NO_WAY);
        due("forced(1) without a WAY", none.forced(1), -1);
    }

    private void setting() {
        says(17, "The HOUR of a TIME is SET to a minute (0 .. 1440; NONE: not any more): true;");
        NightHours n = told("time x;say s:x at 0 0 or x at 1440 1440 or x at 5 5;");
        due("set(0, 0)", n.set(0, 0), true);
        due("bears(0)", n.bears(0), 0);
        due("set(0, 1440)", n.set(0, 1440), true);
        due("bears(0)", n.bears(0), 1);
        due("set(0, 5), another one", n.set(0, 5), true);
        due("bears(0)", n.bears(0), 2);
        due("set(0, NONE)", n.set(0, -1), true);
        due("bears(0)", n.bears(0), -4);
        due("set(0, NONE) of what is not SET", n.set(0, -1), true);
        due("setWays()", n.setWays(), 3);
        NightHours ten = told(times("time t#;", 10) + "say s:tj at 7 7;");
        due("set(9, 7)", ten.set(9, 7), true);
        due("bears(0)", ten.bears(0), 0);

        says(17, "false: no such ones.");
        n.set(0, 5);
        for (int m : noMinute()) {
            due("set(0, " + m + ")", n.set(0, m), m == -1);
            due("it changes nothing", n.bears(0), m == -1 ? -4 : 2);
            n.set(0, 5);
        }
        for (int t : noSuch(1)) {
            due("set(" + t + ", 0)", n.set(t, 0), false);
            due("set(" + t + ", NONE)", n.set(t, -1), false);
        }
        due("they change nothing", n.bears(0), 2);
        due("set(10, 7)", ten.set(10, 7), false);
    }

    private void bearing() {
        says(18, "Whether a SAYING holds with the HOURS that are SET: the first of its choices that does;");
        NightHours n = told("time x;time y;say s:x at 5 9 and y at 7 7 or x behind y -3 3 or x at 9 9 or x behind x 0 0;sure t:x at 0 8 or x at 9 1440;");
        int[][] want = {{5, 7, 0, 0}, {9, 7, 0, 1}, {4, 7, 1, 0}, {10, 7, 1, 1}, {11, 7, 3, 1}, {9, 6, 1, 1}, {9, 20, 2, 1}, {3, 7, 3, 0}, {0, 0, 1, 0}, {1440, 0, 3, 1}};
        for (int[] w : want) {
            n.set(0, w[0]);
            n.set(1, w[1]);
            due("bears(0) with " + w[0] + ", " + w[1], n.bears(0), w[2]);
            due("bears(1) with " + w[0] + ", " + w[1], n.bears(1), w[3]);
        }

        says(18, "-2: none;");
        NightHours m = told("time x;say s:x at 5 9 or x at 11 12;say t:x at 9 5;say u:x behind x 1 9;");
        int[][] edges = {{4, -2}, {5, 0}, {9, 0}, {10, -2}, {11, 1}, {12, 1}, {13, -2}};
        for (int[] e : edges) {
            m.set(0, e[0]);
            due("bears(0) at " + e[0], m.bears(0), e[1]);
            due("a above b", m.bears(1), -2);
            due("behind itself", m.bears(2), -2);
        }

        says(18, "-4: a TIME of one of its SPANS (of any choice) is not SET;");
        n = told("time x;time y;time z;say s:x at 0 9 or x behind y 0 0 and z at 1 1;say t:x at 3 4;say u:y behind z 0 0;");
        due("nothing is SET", n.bears(0), -4);
        n.set(0, 0);
        due("x alone, though the first choice holds", n.bears(0), -4);
        due("of t it is all", n.bears(1), -2);
        n.set(1, 0);
        due("x and y", n.bears(0), -4);
        due("y behind z without z", n.bears(2), -4);
        n.set(2, 0);
        due("all", n.bears(0), 0);
        n.set(1, -1);
        due("without y again", n.bears(0), -4);
        due("y behind z without y", n.bears(2), -4);

        says(18, "NONE: no such one (DOUBTED ones are such).");
        for (int k : noSuch(3)) {
            due("bears(" + k + ")", n.bears(k), -1);
        }
        n.doubt(1, true);
        due("DOUBTED, not held", n.bears(1), -2);
        n.set(0, 3);
        due("DOUBTED, held", n.bears(1), 0);
        n.set(0, -1);
        due("DOUBTED, not SET", n.bears(1), -4);
    }

    private void breaking() {
        says(19, "The first MOVE that does not hold with the HOURS that are SET (those with a TIME that is not SET are left out);");
        NightHours n = told("who p;who q;place a;place b;place c;way a b 10;time u of q in a;time v of q in c;time x of p in a;time y of p in b;time z of p in a;");
        n.set(2, 100);
        n.set(3, 110);
        n.set(4, 119);
        due("y, z are nine apart", n.breaks(), 2);
        n.set(3, 91);
        due("x, y are nine apart, too, and first", n.breaks(), 1);
        n.set(0, 0);
        due("one of a MOVE without a WALK", n.breaks(), 1);
        n.set(1, 1440);
        due("both of a MOVE without a WALK", n.breaks(), 0);
        n.set(1, -1);
        n.set(2, -1);
        due("y, z are 28 apart", n.breaks(), -2);
        NightHours zero = told("who p;place a;place b;way a b 0;time x of p in a;time y of p in b;");
        zero.set(0, 0);
        zero.set(1, 0);
        due("a WALK of 0 at one minute", zero.breaks(), -2);
        NightHours far = told("who p;place a;place b;place c;way a c 1440;way c b 1;time x of p in a;time y of p in b;");
        far.set(0, 0);
        far.set(1, 1440);
        due("a WALK longer than the night", far.breaks(), 0);

        says(19, "-2: none.");
        due("nothing is SET", told(TWO).breaks(), -2);
        n.set(2, 100);
        n.set(3, 110);
        n.set(4, 120);
        due("just the WALK apart", n.breaks(), -2);
        n.set(2, 120);
        n.set(4, 100);
        due("the other way round", n.breaks(), -2);
        due("without MOVES", told("time x;").breaks(), -2);
        NightHours gone = told(TWO);
        for (int text = 0; text < 3; text++) {
            tell(gone, "time x;time y;");
            gone.set(0, 5);
            gone.set(1, 5);
            due("a MOVE of a text ahead", gone.breaks(), -2);
        }
    }

    private void picking() {
        says(26, "An ITEM (a SAYING k; a MOVE: 100 + its number) is PICKED with a choice (NONE: not any more): true;");
        NightHours n = told(TWO);
        due("pick(0, 0), a sure one", n.pick(0, 0), true);
        due("pick(1, 1)", n.pick(1, 1), true);
        due("pick(1, 0), another one", n.pick(1, 0), true);
        due("pick(2, 0)", n.pick(2, 0), true);
        due("pick(100, 0)", n.pick(100, 0), true);
        due("stands()", n.stands(), 1);
        due("pick(100, 1)", n.pick(100, 1), true);
        due("stands()", n.stands(), 0);
        due("pick(100, NONE)", n.pick(100, -1), true);
        due("stands()", n.stands(), 1);
        due("pick(100, NONE) again", n.pick(100, -1), true);
        due("pick(1, NONE)", n.pick(1, -1), true);
        NightHours most = told(MOST_MOVES);
        due("pick(140, 1), the last of 41", most.pick(140, 1), true);
        due("pick(9, 0), the last of ten", most.pick(9, 0), true);
        due("pick(0, 3), the last of four", told(FOUR).pick(0, 3), true);
        NightHours far = told("who p;place a;place b;time x of p in a;time y of p in b;");
        due("pick(100, NONE) of a MOVE without a WALK", far.pick(100, -1), true);
        NightHours near = told("who p;place a;place b;way a b 0;time x of p in a;time y of p in b;");
        due("pick(100, 0) of a MOVE with a WALK of 0", near.pick(100, 0), true);
        due("pick(100, 1) of a MOVE with a WALK of 0", near.pick(100, 1), true);

        says(26, "false: no such ones, a SAYING that is DOUBTED.");
        n.pick(1, 0);
        n.pick(100, 1);
        for (int choice : new int[] {2, 3, 31, 32, HIGH, -2, -3, LOW}) {
            due("pick(1, " + choice + ")", n.pick(1, choice), false);
            due("pick(100, " + choice + ")", n.pick(100, choice), false);
        }
        due("pick(0, 1)", n.pick(0, 1), false);
        due("what was PICKED ahead stays", n.ring(), 4);
        for (int item : new int[] {-1, LOW, 3, 9, 10, 11, 55, 99, 101, 102, 110, 155, 200, HIGH, LOW + 100, HIGH - 99}) {
            due("pick(" + item + ", 0)", n.pick(item, 0), false);
            due("pick(" + item + ", NONE)", n.pick(item, -1), false);
        }
        due("pick(141, 0)", most.pick(141, 0), false);
        due("pick(10, 0) of ten", most.pick(10, 0), false);
        due("pick(0, 4) of four", told(FOUR).pick(0, 4), false);
        due("a choice of a MOVE without a WALK", far.pick(100, 0), false);
        due("a choice of a MOVE without a WALK", far.pick(100, 1), false);
        n.doubt(1, true);
        due("pick(1, 0) DOUBTED", n.pick(1, 0), false);
        due("pick(1, NONE) DOUBTED", n.pick(1, -1), false);
        n.doubt(1, false);
        due("pick(1, 0) no more DOUBTED", n.pick(1, 0), true);
    }

    private void standing() {
        says(0, "PICKED: a choice for some ITEMS.");
        NightHours n = told("time x;say a:x at 0 5 or x at 6 9;say b:x at 7 9;say c:x at 2 1;");
        n.pick(0, 0);
        due("one of three", n.stands(), 1);
        n.pick(1, 0);
        due("two of three", n.stands(), 0);
        n.pick(0, 1);
        due("another choice", n.stands(), 1);

        says(27, "1 if there are HOURS with all that is PICKED (and what is always), else 0.");
        due("nothing PICKED, though there is no WAY", told(NO_WAY).stands(), 1);
        due("nothing PICKED or told", new NightHours().stands(), 1);
        NightHours most = told(MOST_MOVES);
        for (int k = 0; k < 41; k++) {
            most.pick(100 + k, 1);
        }
        for (int s = 0; s < 10; s++) {
            most.pick(s, 0);
        }
        due("all 51 ITEMS", most.stands(), 1);
        most.pick(140, 0);
        due("the last of them otherwise", most.stands(), 0);
        NightHours open = told("time x;time y;open x behind y 5 9;say s:x behind y 9 20;say t:x behind y 10 20;");
        open.pick(0, 0);
        due("with what is open", open.stands(), 1);
        open.pick(1, 0);
        due("against what is open", open.stands(), 0);
        due("what is open has no HOURS", told("time x;time y;open x behind y 6 5;").stands(), 0);
        n.more(0, -1, 9, 20);
        due("with MORE", n.stands(), 1);
        n.fewer();
        n.more(0, -1, 10, 20);
        due("against MORE", n.stands(), 0);
        n.fewer();

        says(27, "A SAYING that becomes DOUBTED is PICKED no more.");
        n.pick(2, 0);
        due("with a SAYING of none", n.stands(), 0);
        n.doubt(2, true);
        due("DOUBTED", n.stands(), 1);
        n.doubt(2, false);
        due("DOUBTED no more", n.stands(), 1);
        n.pick(2, 0);
        due("PICKED anew", n.stands(), 0);
        n.doubt(2, false);
        due("not to be DOUBTED leaves it PICKED", n.stands(), 0);
        n.doubt(1, true);
        due("another one DOUBTED leaves it PICKED", n.stands(), 0);
    }

    private void rings() {
        says(0, "THE RING of what is PICKED: if there are no HOURS with all of it: the ITEMS that are PICKED; one after the other, as ITEMS stand, "
            + "each is left out if there are none without it, too (and without those left out ahead); what is left then.");
        NightHours n = told("time x;say a:x at 1 1;say b:x at 2 2 or x at 1 2;say c:x at 3 3;say d:x at 0 1440;say e:x at 1 2;");
        for (int s = 4; s >= 0; s--) {
            n.pick(s, 0);
        }
        // Without a there are none; without b, too; c and e must stay; d can go.
        due("ring()", n.ring(), 2);
        due("ringAt(0)", n.ringAt(0), 2);
        due("ringAt(1)", n.ringAt(1), 4);
        n.pick(4, -1);
        // Without a there are none; b and c must stay then.
        due("ring()", n.ring(), 2);
        due("ringAt(0)", n.ringAt(0), 1);
        due("ringAt(1)", n.ringAt(1), 2);

        says(28, "How many ITEMS THE RING has;");
        NightHours two = told(TWO);
        two.pick(100, 1);
        two.pick(2, 0);
        two.pick(1, 0);
        two.pick(0, 0);
        due("a ring of SAYINGS and a MOVE", two.ring(), 4);
        NightHours one = told("time x;say a:x at 0 9;say b:x at 2 1;");
        one.pick(0, 0);
        one.pick(1, 0);
        due("one by itself", one.ring(), 1);
        one.more(0, -1, 2, 1);
        due("none, if there are no HOURS even without", one.ring(), 0);
        StringBuilder chain = new StringBuilder(times("time t#;", 10));
        for (char c = 'a'; c < 'j'; c++) {
            chain.append("say s").append(c).append(":t").append((char) (c + 1)).append(" behind t").append(c).append(" 1 1;");
        }
        NightHours ten = told(chain + "say z:ta behind tj 5 5;");
        for (int s = 0; s < 10; s++) {
            ten.pick(s, 0);
        }
        due("all ten", ten.ring(), 10);

        says(28, "-2: there are HOURS.");
        due("nothing PICKED", told(TWO).ring(), -2);
        ten.pick(4, -1);
        due("nine of ten", ten.ring(), -2);

        says(29, "The i-th ITEM of THE RING (as told to pick(), as ITEMS stand);");
        int[] items = {0, 1, 2, 100};
        for (int i = 0; i < 4; i++) {
            due("ringAt(" + i + ")", two.ringAt(i), items[i]);
        }
        NightHours most = told(MOST_MOVES);
        most.pick(140, 0);
        most.pick(9, 0);
        most.pick(8, 0);
        int[] last = {8, 9, 140};
        for (int i = 0; i < 3; i++) {
            due("ringAt(" + i + ") of the last ITEMS", most.ringAt(i), last[i]);
        }

        says(29, "NONE: not so many, there are HOURS.");
        for (int i : noSuch(4)) {
            due("ringAt(" + i + ")", two.ringAt(i), -1);
        }
        for (int i = 0; i < 10; i++) {
            due("ringAt(" + i + ") with HOURS", ten.ringAt(i), -1);
        }
        due("ringAt(0) of an empty one", one.ringAt(0), -1);
    }

    private void more() {
        says(37, "MORE: TIME x less TIME y (NONE: x itself) is a .. b (each -1440 .. 1440): how many there are;");
        NightHours n = told("time x;time y;");
        due("more(0, 1, -1440, 1440)", n.more(0, 1, -1440, 1440), 1);
        due("gap(0, 0, 1, false)", n.gap(0, 0, 1, false), -1440);
        due("more(0, 1, -5, 7)", n.more(0, 1, -5, 7), 2);
        due("gap(0, 0, 1, false)", n.gap(0, 0, 1, false), -5);
        due("gap(0, 0, 1, true)", n.gap(0, 0, 1, true), 7);
        due("more(1, NONE, 3, 9)", n.more(1, -1, 3, 9), 3);
        due("hour(0, 1, false)", n.hour(0, 1, false), 3);
        due("hour(0, 1, true)", n.hour(0, 1, true), 9);
        due("hour(0, 0, true)", n.hour(0, 0, true), 16);
        due("more(0, 0, 0, 0), behind itself", n.more(0, 0, 0, 0), 4);
        due("ways()", n.ways(), 1);
        due("more(0, NONE, -1440, 0), below the night", n.more(0, -1, -1440, 0), 5);
        due("hour(0, 0, true)", n.hour(0, 0, true), 0);
        due("more(0, 1, 1, 0), of none", n.more(0, 1, 1, 0), 6);
        due("ways()", n.ways(), 0);
        NightHours edge = told("time x;time y;");
        due("more(0, 1, 1440, 1440)", edge.more(0, 1, 1440, 1440), 1);
        due("ways()", edge.ways(), 1);
        due("more(1, NONE, -1440, -1440)", edge.more(1, -1, -1440, -1440), 2);
        due("ways()", edge.ways(), 0);

        says(37, "NONE, and nothing happens: 6 are there, no such ones.");
        n = told("time x;time y;say s:x at 0 9;");
        for (int t : noSuch(2)) {
            due("more(" + t + ", 0, 0, 0)", n.more(t, 0, 0, 0), -1);
            due("more(" + t + ", NONE, 0, 0)", n.more(t, -1, 0, 0), -1);
            if (t != -1) {
                due("more(0, " + t + ", 0, 0)", n.more(0, t, 0, 0), -1);
            }
        }
        for (int m : new int[] {-1441, 1441, LOW, HIGH, -2000, 2000}) {
            due("more(0, 1, " + m + ", 0)", n.more(0, 1, m, 0), -1);
            due("more(0, 1, 0, " + m + ")", n.more(0, 1, 0, m), -1);
            due("more(0, NONE, " + m + ", " + m + ")", n.more(0, -1, m, m), -1);
        }
        due("none is there", n.fewer(), -1);
        for (int i = 1; i <= 6; i++) {
            due("more()", n.more(0, -1, i, 9), i);
        }
        due("a seventh", n.more(0, -1, 8, 8), -1);
        due("a seventh of no such TIME", n.more(5, -1, 8, 8), -1);
        due("hour(0, 0, false)", n.hour(0, 0, false), 6);
        due("hour(0, 0, true)", n.hour(0, 0, true), 9);
        due("six are there", n.fewer(), 5);
        due("room for one again", n.more(0, -1, 8, 9), 6);
        due("hour(0, 0, false)", n.hour(0, 0, false), 8);
    }

    private void fewer() {
        says(38, "The last of MORE goes: how many there are;");
        NightHours n = told("time x;say s:x at 0 99;");
        for (int i = 1; i <= 6; i++) {
            n.more(0, -1, i, 100 - 10 * i);
        }
        for (int left = 5; left >= 0; left--) {
            due("fewer()", n.fewer(), left);
            due("hour(0, 0, false)", n.hour(0, 0, false), left);
            due("hour(0, 0, true)", n.hour(0, 0, true), left == 0 ? 99 : 100 - 10 * left);
        }

        says(38, "NONE: there were none.");
        due("fewer()", n.fewer(), -1);
        due("fewer() again", n.fewer(), -1);
        due("more() is the first", n.more(0, -1, 50, 50), 1);
        due("hour(0, 0, true)", n.hour(0, 0, true), 50);
    }

    private void tried() {
        says(39, "The i-th TRY (from 0 on) of GOING THROUGH all: what 0 its ITEM (as told to pick()), 1 the choice, 2: 1 if there were HOURS with it, else 0;");
        NightHours n = told(TWO);
        int[][] want = {{0, 0, 1}, {1, 0, 1}, {2, 0, 1}, {100, 0, 1}, {100, 1, 0}, {1, 1, 1}, {2, 0, 1}, {100, 0, 0}, {100, 1, 1}};
        for (int i = 0; i < 9; i++) {
            for (int what = 0; what < 3; what++) {
                due("tried(" + i + ", " + what + ")", n.tried(i, what), want[i][what]);
            }
        }
        NightHours most = told(MOST_MOVES);
        due("TRIES of ten SAYINGS, and of 41 MOVES both choices", most.count(6), 92);
        due("tried(91, 0)", most.tried(91, 0), 140);
        due("tried(91, 1)", most.tried(91, 1), 1);
        due("tried(91, 2)", most.tried(91, 2), 1);
        due("tried(90, 2)", most.tried(90, 2), 0);
        NightHours four = told(FOUR);
        due("tried(3, 1), the last of four", four.tried(3, 1), 3);

        says(39, "NONE: not so many (SPENT: the first 1,000 are told), no such ones.");
        for (int i : noSuch(9)) {
            due("tried(" + i + ", 0)", n.tried(i, 0), -1);
        }
        for (int what : noSuch(3)) {
            due("tried(0, " + what + ")", n.tried(0, what), -1);
        }
        NightHours spent = told(SPENT);
        due("tried(0, 0) while SPENT", spent.tried(0, 0), 0);
        due("tried(9, 0) while SPENT", spent.tried(9, 0), 9);
        due("tried(10, 0) while SPENT, the MOVE", spent.tried(10, 0), 100);
        due("tried(999, 2) while SPENT", spent.tried(999, 2), 1);
        due("tried(1000, 0) while SPENT", spent.tried(1000, 0), -1);
        due("tried(1000, 2) while SPENT", spent.tried(1000, 2), -1);
        due("tried(999, 3) while SPENT", spent.tried(999, 3), -1);
        due("tried(-1, 0) while SPENT", spent.tried(-1, 0), -1);
        NightHours full = told("time x;" + alike("say", "s", 4, 3, 2, 4, 3, 2));
        due("tried(999, 0) of 1,000", full.tried(999, 0), 5);
        due("tried(999, 1) of 1,000", full.tried(999, 1), 1);
        due("tried(1000, 0) of 1,000", full.tried(1000, 0), -1);
        due("without a TRY", told("time x;").tried(0, 0), -1);
        // What an earlier GOING THROUGH had tried is gone.
        n.doubt(1, true);
        due("TRIES without SAYING 1", n.count(6), 4);
        due("tried(4, 0)", n.tried(4, 0), -1);
        due("tried(1, 0)", n.tried(1, 0), 2);
    }

    private void setWays() {
        says(40, "How many WAYS have HOURS with all that are SET;");
        NightHours n = told(TWO);
        due("nothing SET", n.setWays(), 2);
        int[][] want = {{539, 0}, {540, 1}, {570, 1}, {571, 0}, {609, 0}, {610, 1}, {650, 1}, {651, 0}, {0, 0}, {1440, 0}};
        for (int[] w : want) {
            n.set(0, w[0]);
            due("x at " + w[0], n.setWays(), w[1]);
        }
        n.set(0, -1);
        n.set(1, 600);
        due("y at 600", n.setWays(), 2);
        n.set(0, 619);
        due("y at 600, x at 619", n.setWays(), 0);
        n.set(0, 620);
        due("y at 600, x at 620", n.setWays(), 1);
        due("they change no WAY", n.ways(), 2);
        NightHours day = told("time x;time y;say s:y behind x 1440 1440;");
        day.set(0, 0);
        due("x at 0", day.setWays(), 1);
        day.set(0, 1);
        due("x at 1", day.setWays(), 0);
        due("no WAY", told(NO_WAY).setWays(), 0);
        due("three that can be by twos alone", threeSet(), 0);
        NightHours ten = told(times("time t#;", 10) + "say s:tj behind ta 5 9;");
        ten.set(9, 4);
        due("the last of ten at 4", ten.setWays(), 0);
        ten.set(9, 5);
        due("the last of ten at 5", ten.setWays(), 1);
        due("the first of ten then", ten.slack(0, 0, true), 0);

        says(40, "-3: SPENT.");
        due("setWays()", told(SPENT).setWays(), -3);
    }

    /** x behind y 5 .. 9, y behind z 5 .. 9: with x at 20 and z at 2 there are none, though each two of x, y, z could be. */
    private int threeSet() {
        NightHours n = told("time x;time y;time z;say s:x behind y 5 9 and y behind z 5 9;");
        n.set(0, 21);
        n.set(2, 2);
        due("x less z is 19", n.setWays(), 0);
        n.set(2, 3);
        due("x less z is 18", n.setWays(), 1);
        n.set(1, 11);
        due("y less z is 8, x less y is 10", n.setWays(), 0);
        n.set(1, 12);
        due("y less z is 9, x less y is 9", n.setWays(), 1);
        n.set(1, 13);
        return n.setWays();
    }

    private void slacks() {
        says(41, "The least (most: the greatest) minute of a TIME in WAY w with the HOURS that are SET;");
        NightHours n = told(TWO);
        due("nothing SET: as hour()", n.slack(0, 0, false), 540);
        due("nothing SET: as hour()", n.slack(1, 0, true), 650);
        n.set(1, 600);
        due("x in WAY 1", n.slack(1, 0, false), 620);
        due("x in WAY 1", n.slack(1, 0, true), 650);
        due("x in WAY 0", n.slack(0, 0, true), 570);
        due("y itself", n.slack(0, 1, false), 600);
        due("y itself", n.slack(0, 1, true), 600);
        due("hour() stays", n.hour(1, 0, false), 610);
        NightHours day = told("time x;time y;say s:y behind x 1440 1440;");
        day.set(0, 0);
        due("y with x at 0", day.slack(0, 1, false), 1440);
        due("x at 0", day.slack(0, 0, true), 0);
        NightHours pair = told("time x;time y;say s:y behind x 5 9;");
        pair.set(0, 100);
        due("y, TIME 0 SET", pair.slack(0, 1, false), 105);
        due("y, TIME 0 SET", pair.slack(0, 1, true), 109);
        pair.set(0, -1);
        pair.set(1, 100);
        due("x, TIME 1 SET", pair.slack(0, 0, false), 91);
        due("x, TIME 1 SET", pair.slack(0, 0, true), 95);
        due("without any ITEM", told("time x;").slack(0, 0, true), 1440);

        says(41, "-2: it has none with these;");
        n.set(0, 560);
        due("slack(1, 1, true)", n.slack(1, 1, true), -2);
        due("slack(1, 2, false), another TIME", n.slack(1, 2, false), -2);
        due("slack(0, 2, false) in the other WAY", n.slack(0, 2, false), 600);
        day.set(0, 1);
        due("y with x at 1", day.slack(0, 1, false), -2);

        says(41, "-3: SPENT;");
        NightHours spent = told(SPENT);
        for (int w : new int[] {0, 1, 1000, HIGH}) {
            due("slack(" + w + ", 0, true)", spent.slack(w, 0, true), -3);
        }

        says(41, "NONE: no such ones.");
        for (int w : noSuch(2)) {
            due("slack(" + w + ", 0, false)", n.slack(w, 0, false), -1);
        }
        for (int t : noSuch(3)) {
            due("slack(0, " + t + ", true)", n.slack(0, t, true), -1);
            due("slack(1, " + t + ", true), which has none", n.slack(1, t, true), -1);
        }
        due("slack(-1, 0, true) while SPENT", spent.slack(-1, 0, true), -1);
        due("slack(0, 2, true) while SPENT", spent.slack(0, 2, true), -1);
        due("no WAY", told(NO_WAY).slack(0, 0, true), -1);
    }

    private void drawn() {
        says(42, "Where a PERSON is at a minute m in WAY w, each TIME at its least minute.");
        NightHours n = told("who p;who q;place a;place b;place c;way a b 20;way b c 0;time t of p in a;time u of p in b;time v of p in c;time w of p in a;"
            + "time x of p in a;sure s:t at 100 150 and u at 200 250 and v at 200 200;sure r:w at 300 300 and x at 400 1440;");
        due("WAYS: b and c are one PLACE nearly", n.ways(), 2);
        due("t at its least minute", n.drawn(0, 0, 100), 0);
        due("ahead of it", n.drawn(0, 0, 99), -2);
        NightHours two = told(TWO);
        due("x in WAY 0", two.drawn(0, 0, 540), 0);
        due("x is not there in WAY 1", two.drawn(1, 0, 540), -2);
        due("x in WAY 1", two.drawn(1, 0, 610), 0);

        says(42, "Of that PERSON's TIMES one at m (the least number): its PLACE;");
        due("u and v at 200", n.drawn(0, 0, 200), 1);
        due("u and v at 200", n.drawn(1, 0, 200), 1);
        due("w at 300", n.drawn(0, 0, 300), 0);
        NightHours turned = told("who p;place a;place b;way a b 0;time t of p in b;time u of p in a;sure s:t at 5 5 and u at 5 5;");
        due("t and u at 5", turned.drawn(0, 0, 5), 1);
        due("a TIME at minute 0", told("who p;place a;place b;time x of p in b;").drawn(0, 0, 0), 1);
        due("a TIME at minute 1440", told("who p;place a;place b;time x of p in b;sure s:x at 1440 1440;").drawn(0, 0, 1440), 1);

        says(42, "else A, the latest ahead of m, and B, the earliest behind it (of several the least number):");
        due("A is u, not v", n.drawn(0, 0, 201), 1);
        due("A is t, not u", turned.drawn(0, 0, 6), 1);
        NightHours order = told("who p;place a;place b;place c;way a b 20;way b c 20;way a c 40;time t of p in c;time u of p in b;time v of p in a;"
            + "sure s:t at 300 300 and u at 200 200 and v at 100 100;");
        due("A is v, B is u", order.drawn(0, 0, 180), 0);
        due("A is v, B is u", order.drawn(0, 0, 181), -4);
        due("A is u, B is t", order.drawn(0, 0, 280), 1);
        due("A is u, B is t", order.drawn(0, 0, 281), -4);

        says(42, "with both A's PLACE while m is at most B's minute less the WALK from A's to B's, else -4 (on the road);");
        int[][] want = {{101, 0}, {179, 0}, {180, 0}, {181, -4}, {199, -4}, {280, 1}, {281, -4}, {299, -4}};
        for (int[] w : want) {
            due("drawn(0, 0, " + w[0] + ")", n.drawn(0, 0, w[0]), w[1]);
        }
        due("both in one PLACE", n.drawn(0, 0, 399), 0);
        due("with a WALK of 0", told("who p;place a;place b;way a b 0;time t of p in a;time u of p in b;sure s:t at 5 5 and u at 9 9;").drawn(0, 0, 8), 0);

        says(42, "with A alone its PLACE;");
        due("behind the last", n.drawn(0, 0, 401), 0);
        due("at the night's end", n.drawn(0, 0, 1440), 0);
        NightHours ten = told("who p;place a;place b;" + times("time t# of p in a;", 9) + "time z of p in a;sure s:z at 9 9;");
        due("behind the last of ten", ten.drawn(0, 0, 10), 0);
        due("behind the last", order.drawn(0, 0, 301), 2);

        says(42, "else -2.");
        due("ahead of the first", n.drawn(0, 0, 0), -2);
        due("ahead of the first", order.drawn(0, 0, 99), -2);
        due("a PERSON without a TIME", n.drawn(0, 1, 200), -2);
        due("a PERSON without a TIME", n.drawn(1, 1, 1440), -2);

        says(42, "-3: SPENT;");
        NightHours spent = told(SPENT);
        for (int w : new int[] {0, 1, 1000, HIGH}) {
            due("drawn(" + w + ", 0, 0)", spent.drawn(w, 0, 0), -3);
        }

        says(42, "NONE: no such ones.");
        for (int w : noSuch(2)) {
            due("drawn(" + w + ", 0, 200)", n.drawn(w, 0, 200), -1);
        }
        for (int p : noSuch(2)) {
            due("drawn(0, " + p + ", 200)", n.drawn(0, p, 200), -1);
        }
        for (int m : noMinute()) {
            due("drawn(0, 0, " + m + ")", n.drawn(0, 0, m), -1);
            due("drawn(0, 0, " + m + ") while SPENT", spent.drawn(0, 0, m), -1);
        }
        due("drawn(-1, 0, 0) while SPENT", spent.drawn(-1, 0, 0), -1);
        due("drawn(0, 1, 0) while SPENT", spent.drawn(0, 1, 0), -1);
        due("no WAY", told(TWO + "sure no:x at 1 0;").drawn(0, 0, 0), -1);
    }

    private void counting() {
        says(48, "0 PERSONS, 1 PLACES, 2 TIMES, 3 SAYINGS, 4 QUESTIONS, 5 MOVES,");
        NightHours n = told(times("who p#;", 4) + times("place q#;", 6) + "way qa qb 1;".repeat(12) + "time ta of pa in qa;time tb of pa in qb;" + times("time u#;", 8)
            + times("say s#:ta at 1 1;sure r#:ta at 1 1;", 5) + times("open u# behind ta 1 2;", 4) + times("ask k#:ta at 1 1;", 5));
        int[] full = {4, 6, 10, 10, 5, 1};
        for (int what = 0; what < full.length; what++) {
            due("count(" + what + ") of a full text", n.count(what), full[what]);
            due("count(" + what + ") of an empty text", new NightHours().count(what), 0);
        }
        due("the most MOVES", told(MOST_MOVES).count(5), 41);

        says(48, "6 TRIES of GOING THROUGH all (1001 if it is SPENT),");
        due("none", told("time x;").count(6), 0);
        due("1,000", told("time x;" + alike("say", "s", 4, 3, 2, 4, 3, 2)).count(6), 1000);
        due("SPENT", told(SPENT).count(6), 1001);

        says(48, "7 bytes on the tape,");
        due("none", n.count(7), 0);
        n.feed(0, 0, 0, 0, 0);
        due("20", n.count(7), 20);
        n.back(19);
        due("1", n.count(7), 1);
        for (int i = 0; i < 99; i++) {
            n.feed(0, 0, 0, 0, 0);
        }
        due("1,981", n.count(7), 1981);
        n.feed(0, 0, 0, 0, 0);
        due("1,981 still", n.count(7), 1981);

        says(48, "10 and a SAYING's number: its choices.");
        NightHours c = told("time x;" + alike("say", "s", 1, 2, 3, 4) + alike("sure", "t", 4, 3, 2, 1, 1, 2));
        int[] choices = {1, 2, 3, 4, 4, 3, 2, 1, 1, 2};
        c.doubt(3, true);
        for (int k = 0; k < 10; k++) {
            due("count(" + (10 + k) + ")", c.count(10 + k), choices[k]);
        }
        tell(c, "time x;say s:x at 1 1;");
        due("count(10) of the next text", c.count(10), 1);

        says(48, "NONE for others.");
        for (int what : new int[] {8, 9, -1, -2, -10, LOW, 11, 12, 19, 20, 21, 42, 100, 110, HIGH, HIGH - 5, LOW + 10}) {
            due("count(" + what + ")", c.count(what), -1);
        }
        due("count(20) of ten SAYINGS", n.count(20), -1);
        due("count(10) without SAYINGS", new NightHours().count(10), -1);
    }
}
