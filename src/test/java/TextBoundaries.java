import java.util.Set;

/** What a TEXT is, its FAULTS, the tape: the Terms' first part and promises 1 to 5. */
final class TextBoundaries extends Boundaries {
    private static final String[] WORDS = {"who", "place", "way", "time", "of", "in", "say", "trust", "sure", "or", "open", "behind", "ask", "and", "at"};
    private static final String BLANKS = "\t\n\r ";
    /** Two of each kind that a NAME can be used as, and one of each other kind. */
    private static final String NAMES = "who aa;who ab;place ba;place bb;time ca;time cb;say da:ca at 0 9;sure ea:ca at 0 9;ask fa:ca at 0 9;";

    @Override
    void run() {
        tokens();
        names();
        integers();
        grammar();
        numbers();
        spans();
        order();
        roomOfTokens();
        roomOfTells();
        twice();
        untold();
        wrongIntegers();
        wrongNames();
        changesNothing();
        inPlaceOfTheOneAhead();
        newObject();
        feeding();
        takingBack();
        reading();
        placing();
    }

    private void tokens() {
        says(0, "A TEXT has 2,000 bytes at most.");
        fine("who a" + " ".repeat(1994) + ";");
        NightHours n = told(" ".repeat(1994) + "who a;");
        due("PERSONS of a text whose last byte ends its only TELL", n.count(0), 1);
        fault(" ".repeat(1999) + "?", 1, 1999);
        fault(" ".repeat(1996) + "who ", 1, 2000);

        says(0, "TOKENS, the longest that can be,");
        fault("whoa;", 1, 0);
        fine("who whoa;");
        faultAtMark("who a #b;", 1);
        fine("who ab;");
        faultAtMark("place a;place b;way a b 1 #2;", 1);
        due("INT of two digits", told("place a;place b;way a b 12;").walk(0, 1), 12);
        faultAtMark("time x;say s:x at 1213#;", 1);
        faultAtMark("time x;say s:xat #1 2;", 1);

        says(0, "with blanks (9, 10, 13, 32) between or not:");
        for (int c = 0; c < 256; c++) {
            String sign = "" + (char) c;
            if (BLANKS.contains(sign)) {
                fine(sign + "who" + sign + "a" + sign + sign + ";" + sign);
            } else {
                fault("who a;" + sign, 1, 6);
                fault("who" + sign + "a;", 1, c >= 'a' && c <= 'z' ? 0 : 3);
                fault("who a" + sign + sign, 1, c >= 'a' && c <= 'z' ? 7 : c == ';' ? 6 : 5);
            }
        }
        n = told("who p;place a;place b;way a b7;time x of p in a;time y;say s trust9:x at1 2and y at3 4or x behind y-5-3;ask q:x behind y-1 2;");
        due("walk(0, 1) without blanks", n.walk(0, 1), 7);
        due("choices without blanks", n.count(10), 2);
        due("gap(1, 0, 1, false) without blanks", n.gap(1, 0, 1, false), -5);
        due("gap(1, 0, 1, true) without blanks", n.gap(1, 0, 1, true), -3);
    }

    private void names() {
        says(0, "NAMES (letters a .. z, 8 at most,");
        fine("who a;who z;who abcdefgh;who zzzzzzzz;");
        fine("who zzzzzzzy;who zzzzzzzz;who zzzzzzz;who yzzzzzzz;");
        faultAtMark("who #abcdefghi;", 1);
        for (String sign : new String[] {"`", "{", "A", "Z", "_", "\u00e9", "\u00df"}) {
            faultAtMark("who #" + sign + ";", 1);
            faultAtMark("who a#" + sign + ";", 1);
        }

        says(0, "none of the words in quotes)");
        for (String word : WORDS) {
            faultAtMark("who #" + word + ";", 1);
            fine("who " + word + "x;");
            fine("who " + word.substring(0, word.length() - 1) + ";");
        }

        says(0, "A longer one, all else, is no TOKEN.");
        faultAtMark("#whowhowho a;", 1);
        faultAtMark("who #abcdefghabcdefgh;", 1);
        faultAtMark("place a;place b;way a b #00000000;", 1);
        faultAtMark("time x;say s #trusttrust 5:x at 1 2;", 1);
        for (char c : ",.+*/=()[]<>!?\"'@%&^~|\\$".toCharArray()) {
            faultAtMark("who a;#" + c, 1);
        }
    }

    private void integers() {
        says(0, "INTS (1 to 4 digits),");
        String[] right = {"0", "5", "05", "0005", "1440"};
        int[] values = {0, 5, 5, 5, 1440};
        for (int i = 0; i < right.length; i++) {
            due("a way of " + right[i], told("place a;place b;way a b " + right[i] + ";").walk(0, 1), values[i]);
        }
        faultAtMark("place a;place b;way a b #00005;", 1);
        faultAtMark("place a;place b;way a b #12345;", 1);
        faultAtMark("place a;place b;way a b #;", 1);
        faultAtMark("place a;place b;way a b #/5;", 1);

        says(0, "SIGNS ; : - .");
        fine("time x;say s:x behind x-1 1;");
        faultAtMark("time x#.say s:x at 1 1;", 1);
        faultAtMark("time x;say s#;x at 1 1;", 1);
        faultAtMark("time x#:say s:x at 1 1;", 1);
        faultAtMark("time x#-say s:x at 1 1;", 1);
        faultAtMark("time x;say s:x behind x #+1 1;", 1);
    }

    /** What a text may go on with behind each beginning of a TELL; all else is SYNTAX there, the text's end, too. */
    private void grammar() {
        says(0, "text: {TELL}.");
        fine("");
        fine("who a;");
        fine("who a;who b;place c;");
        fault("who a;who b", 1, 11);

        says(0, "TELL: ('who' | 'place') NAME ';' | 'way' NAME NAME INT ';' | 'time' NAME ['of' NAME 'in' NAME] ';' | ('say' NAME ['trust' INT] | 'sure' NAME) "
            + "':' ALL {'or' ALL} ';' | 'open' NAME 'behind' NAME INT INT ';' | 'ask' NAME ':' SPAN ';'.");
        String all = "who p;place a;place b;way a b 5;time x;time y of p in a;say s:x at 1 2;say t trust 3:x at 1 2 or y at 1 2;sure u:x at 1 2;sure v:x at 1 2 or y at 1 2;"
            + "open x behind y 1 2;ask q:x at 1 2;";
        fine(all);
        due("none of its TELLS is lost", told(all).count(3), 4);
        says(0, "ALL: SPAN {'and' SPAN}.");
        fine("time x;say s:x at 1 2;sure t:x at 1 2 and x at 1 2 and x at 1 2;");
        says(0, "SPAN: NAME 'at' INT INT | NAME 'behind' NAME SINT SINT.");
        fine("time x;time y;say s:x at 1 2;ask q:x behind y 1 2;");
        faultAtMark("time x;say s:x at #-1 2;", 1);
        faultAtMark("time x;say s:x at 1 #-2;", 1);
        says(0, "SINT: ['-'] INT.");
        fine("time x;say s:x behind x -1 -2 and x behind x 1 -2 and x behind x - 1 2;ask q:x behind x -0 - 0;");
        faultAtMark("time x;say s:x behind x -#-1 2;", 1);

        says(0, "1 SYNTAX: a TOKEN, or what is none, with which no text goes on.");
        String[][] rows = {
            {"", "who place way time say sure open ask END"},
            {"who", "NAME"}, {"who a", ";"}, {"who a;", "who place way time say sure open ask END"},
            {"place", "NAME"}, {"place a", ";"},
            {"way", "NAME"}, {"way a", "NAME"}, {"way a b", "INT"}, {"way a b 5", ";"},
            {"time", "NAME"}, {"time x", "of ;"}, {"time x of", "NAME"}, {"time x of p", "in"}, {"time x of p in", "NAME"}, {"time x of p in a", ";"},
            {"say", "NAME"}, {"say s", "trust :"}, {"say s trust", "INT"}, {"say s trust 5", ":"}, {"say s:", "NAME"}, {"say s trust 5:", "NAME"},
            {"say s:x", "at behind"}, {"say s:x at", "INT"}, {"say s:x at 1", "INT"}, {"say s:x at 1 2", "or and ;"},
            {"say s:x at 1 2 or", "NAME"}, {"say s:x at 1 2 and", "NAME"}, {"say s:x at 1 2 and x", "at behind"}, {"say s:x at 1 2 or x at 1 2", "or and ;"},
            {"say s:x behind", "NAME"}, {"say s:x behind y", "INT -"}, {"say s:x behind y-", "INT"}, {"say s:x behind y 1", "INT -"},
            {"say s:x behind y-1", "INT -"}, {"say s:x behind y 1-", "INT"}, {"say s:x behind y 1 2", "or and ;"}, {"say s:x behind y-1-2", "or and ;"},
            {"sure", "NAME"}, {"sure s", ":"}, {"sure s:", "NAME"}, {"sure s:x at 1 2", "or and ;"}, {"sure s:x at 1 2 and y behind x 1 2", "or and ;"},
            {"open", "NAME"}, {"open x", "behind"}, {"open x behind", "NAME"}, {"open x behind y", "INT"}, {"open x behind y 1", "INT"}, {"open x behind y 1 2", ";"},
            {"ask", "NAME"}, {"ask q", ":"}, {"ask q:", "NAME"}, {"ask q:x", "at behind"}, {"ask q:x at", "INT"}, {"ask q:x at 1", "INT"},
            {"ask q:x at 1 2", ";"}, {"ask q:x behind y", "INT -"}, {"ask q:x behind y 1", "INT -"}, {"ask q:x behind y 1 2", ";"},
        };
        for (String[] row : rows) {
            Set<String> next = Set.of(row[1].split(" "));
            for (String word : WORDS) {
                goesOn(row[0], word, next.contains(word));
            }
            goesOn(row[0], "nn", next.contains("NAME"));
            goesOn(row[0], "7", next.contains("INT"));
            for (String sign : new String[] {";", ":", "-"}) {
                goesOn(row[0], sign, next.contains(sign));
            }
            for (String none : new String[] {"abcdefghi", "12345", "?", "X", "\0", "\u00ff"}) {
                goesOn(row[0], none, false);
            }
            if (next.contains("END")) {
                fine(row[0] + " \n");
            } else {
                fault(row[0] + " \n", 1, row[0].length() + 2);
            }
        }
    }

    /** Whether the text that ends with that TOKEN has SYNTAX there or goes on: then it has none ahead of its end. */
    private void goesOn(String beginning, String token, boolean does) {
        String text = beginning + " " + token;
        int place = beginning.length() + 1;
        if (!does) {
            fault(text, 1, place);
            return;
        }
        NightHours n = new NightHours();
        int fault = Tape.read(n, text);
        boolean refused = fault == 1 && n.place() < text.length();
        due("SYNTAX ahead of the end of \"" + text + "\"", refused, false);
    }

    private void numbers() {
        says(0, "PERSONS, PLACES, TIMES, SAYINGS (say, sure), QUESTIONS (ask) are numbered each from 0 on as they stand.");
        NightHours n = told("place a;who p;time x of p in a;place b;way a b 9;say s:x at 5 5;who q;time y of q in b;sure t:y at 7 7 or y at 8 8;"
            + "ask k:x at 5 5;time z;ask l:z at 0 0;say u:z at 9 9;");
        int[] counts = {2, 2, 3, 3, 2};
        for (int what = 0; what < counts.length; what++) {
            due("count(" + what + ")", n.count(what), counts[what]);
        }
        int[] hours = {5, 7, 9};
        int[] choices = {1, 2, 1};
        for (int k = 0; k < 3; k++) {
            due("hour of TIME " + k, n.hour(0, k, false), hours[k]);
            due("choices of SAYING " + k, n.count(10 + k), choices[k]);
            due("doubt of SAYING " + k, n.doubt(k, false), k != 1);
        }
        due("YES of QUESTION 0", n.ask(0, true), 2);
        due("YES of QUESTION 1", n.ask(1, true), 0);
        due("drawn(0, 0, 5)", n.drawn(0, 0, 5), 0);
        due("drawn(0, 1, 7)", n.drawn(0, 1, 7), 1);

        says(0, "Trust is 1 without.");
        due("price of one without, the other has 2", told("time x;say a trust 2:x at 1 1;say b:x at 2 2;").price(), 1);
        due("the first of two alike", told("time x;say a trust 1:x at 1 1;say b:x at 2 2;").cheapest(), 1);
        // A trust of the text ahead, at the same number, is gone.
        n = told("time x;say a trust 50:x at 2 1;");
        tell(n, "time x;say a:x at 2 1;");
        due("price behind a text with trust", n.price(), 1);
    }

    private void spans() {
        says(0, "x at a b: TIME x is a .. b;");
        int[][] ends = {{0, 0}, {0, 1440}, {1440, 1440}, {5, 5}, {719, 721}};
        for (int[] e : ends) {
            NightHours n = told("time x;say s:x at " + e[0] + " " + e[1] + ";");
            due("the least of " + e[0] + " .. " + e[1], n.hour(0, 0, false), e[0]);
            due("the greatest of " + e[0] + " .. " + e[1], n.hour(0, 0, true), e[1]);
        }

        says(0, "x behind y a b: x less y is a .. b.");
        int[][] gaps = {{-1440, -1440}, {-1440, 1440}, {1440, 1440}, {0, 0}, {-1, 1}, {-7, -3}};
        for (int[] g : gaps) {
            NightHours n = told("time x;time y;say s:x behind y " + g[0] + " " + g[1] + ";");
            due("the least of " + g[0] + " .. " + g[1], n.gap(0, 0, 1, false), g[0]);
            due("the greatest of " + g[0] + " .. " + g[1], n.gap(0, 0, 1, true), g[1]);
        }
        due("behind itself with 0", told("time x;say s:x behind x 0 0 or x behind x -5 9;").ways(), 2);
        due("behind itself without 0", told("time x;say s:x behind x 1 9 or x behind x -9 -1;").ways(), 0);

        says(0, "(None, if a is above b.)");
        due("x at 6 5", told("time x;say s:x at 6 5;").ways(), 0);
        due("x at 1440 0", told("time x;say s:x at 1440 0;").ways(), 0);
        due("x at 5 5", told("time x;say s:x at 5 5;").ways(), 1);
        due("x behind y -1 -2", told("time x;time y;say s:x behind y -1 -2;").ways(), 0);
        due("x behind x 1 -1", told("time x;say s:x behind x 1 -1;").ways(), 0);
        due("only that choice falls away", told("time x;say s:x at 6 5 or x at 5 6;").choice(0, 0), 1);
        due("only its ALL falls away", told("time x;say s:x at 5 6 and x at 6 5 or x at 5 6;").choice(0, 0), 1);
        due("YES of such a QUESTION", told("time x;ask q:x at 6 5;").ask(0, true), 0);
        due("NO of such a QUESTION", told("time x;ask q:x at 6 5;").ask(0, false), 1);
        due("an open TIME of none", told("time x;time y;open x behind y 6 5;").ways(), 0);
    }

    private void order() {
        says(0, "FAULTS, the first by its place");
        faultAtMark("who a#$;who b%;", 1);
        faultAtMark("who a;who b;who c;who d;#who e;?", 2);
        faultAtMark("who a;who b;who c;who d;#?who e;", 1);
        faultAtMark("time x;say s:#zz at 1 1;who s;", 4);
        faultAtMark("place a;way a #a 5;who a;", 5);
        faultAtMark("who a;who #a;time x of zz in zz;", 3);
        faultAtMark("time x;say s trust #0:zz at 1441 1;", 5);

        says(0, "(a byte; the text's end: its length),");
        fault("who", 1, 3);
        fault("who \n\t\r", 1, 7);
        fault("who a", 1, 5);
        fault("who a;w", 1, 6);
        fault("?", 1, 0);

        says(0, "of one place the least:");
        String most = fiveHundred();
        fault(most + "zz", 1, most.length());
        fault(most + ";", 1, most.length());
        fault(most + "who", 2, most.length());
        faultAtMark("time x;time y;time z;open x behind y 1 2;open y behind #zz 1 2;", 4);
        faultAtMark("time x;time y;open x behind y 1 2;open #zz behind zz 1 2;", 4);
        faultAtMark("place a;way #zz zz 1441;", 4);

        says(0, "If there is none, likewise:");
        faultAtMark("who a;who a;who b;who c;#who d;", 2);
        faultAtMark("who a;who a;place #;", 1);
        faultAtMark("time x;say s:zz at 1441 1#?;", 1);
        faultAtMark("place a;way a a 9999#", 1);
        fault("time x;time x;" + times("sure s#:x at 1 1;", 10) + "say t", 2, 184);
    }

    /** So many of seven SAYINGS with twelve SPANS each: 63 TOKENS each, and three of the TIME ahead. */
    private static String longSayings() {
        String all = "x at 1 1 and x at 1 1 and x at 1 1";
        return "time x;" + times("say s#:" + all + " or " + all + " or " + all + " or " + all + ";", 7);
    }

    /** 3 + 7 x 63 + 4 x 8 + 3 x 3 + 5 x 3 = 500 TOKENS; there is room for one more TELL of each kind. */
    private static String fiveHundred() {
        return longSayings() + times("ask k#:x at 1 1;", 4) + times("who p#;", 3) + times("place q#;", 5);
    }

    private void roomOfTokens() {
        says(0, "2 ROOM: a 501st TOKEN;");
        String full = fiveHundred();
        fine(full);
        fine(full + "  \n");
        for (String tell : new String[] {"who pz;", "place qz;", "way qa qb 1;", "time z;", "say z:x at 1 1;", "sure z:x at 1 1;", "ask z:x at 1 1;"}) {
            fault(full + " " + tell, 2, full.length() + 1);
        }
        String cut = full.substring(0, full.length() - 1);
        fault(cut, 1, cut.length());
        fine(cut + " ;");
        // Within a TELL: 497 TOKENS, and the 501st is the fourth behind them.
        String less = full.substring(0, full.lastIndexOf("place"));
        fault(less + "way qa qb 1;", 2, less.length() + 10);
        fault(less + "say z:x at 1 1;", 2, less.length() + 6);
        fault(less + "time y of pa in qa;", 2, less.length() + 10);
        fault(less + "ask z:x at 1 1;", 2, less.length() + 6);
    }

    private void roomOfTells() {
        says(0, "a 5th who, a 7th place, a 13th way, an 11th time, an 11th SAYING, a 5th open, a 6th ask (at its first TOKEN);");
        String[][] rows = {
            {"", "who p#;", "4", "who"}, {"", "place q#;", "6", "place"}, {"place a;place b;", "way a b 1;", "12", "way"}, {"", "time t#;", "10", "time"},
            {"time x;", "say s#:x at 1 1;", "10", "say"}, {"time x;", "sure s#:x at 1 1;", "10", "sure"},
            {"time y;" + times("time x#;", 5), "open x# behind y 1 2;", "4", "open"}, {"time x;", "ask k#:x at 1 1;", "5", "ask"},
        };
        for (String[] row : rows) {
            int most = Integer.parseInt(row[2]);
            String full = row[0] + times(row[1], most);
            fine(full);
            String more = times(row[1], most + 1).substring(times(row[1], most).length());
            fault(full + more, 2, full.length());
            fault(full + " \n" + row[3], 2, full.length() + 2);
            fault(full + row[3] + " ?", 2, full.length());
        }
        String mixed = "time x;" + times("say s#:x at 1 1;sure t#:x at 1 1;", 5);
        fine(mixed);
        fault(mixed + "say u:x at 1 1;", 2, mixed.length());
        fault(mixed + "sure u:x at 1 1;", 2, mixed.length());
        String all = times("who p#;", 4) + times("place q#;", 6) + "way qa qb 1;".repeat(12) + times("time t#;", 10) + times("say s#:ta at 1 1;", 10)
            + times("open t# behind tj 1 2;", 4) + times("ask k#:ta at 1 1;", 5);
        NightHours n = told(all);
        faultOver(n, all, 0, -1);
        for (String word : new String[] {"who", "place", "way", "time", "say", "sure", "open", "ask"}) {
            faultOver(n, all + word, 2, all.length());
        }

        says(0, "a 5th ALL, a 4th SPAN of an ALL (at its or, its and).");
        String three = "x at 1 1 and x at 1 1 and x at 1 1";
        for (String word : new String[] {"say", "sure"}) {
            String begin = "time x;" + word + " s:";
            String fours = begin + "x at 1 1 or x at 1 1 or x at 1 1 or x at 1 1";
            fine(fours + ";");
            fault(fours + " or x at 1 1;", 2, fours.length() + 1);
            fault(fours + " or", 2, fours.length() + 1);
            fine(begin + three + ";");
            fault(begin + three + " and x at 1 1;", 2, (begin + three).length() + 1);
            fault(begin + three + "and", 2, (begin + three).length());
            String whole = begin + three + " or " + three + " or " + three + " or " + three;
            fine(whole + ";");
            fine(whole + ";" + word + " t:" + three + " or " + three + " or " + three + " or " + three + ";");
            fault(whole + " and x at 1 1;", 2, whole.length() + 1);
            fault(whole + " or x at 1 1;", 2, whole.length() + 1);
            fault(begin + "x at 1 1 or " + three + " and x at 1 1;", 2, (begin + "x at 1 1 or " + three).length() + 1);
        }
    }

    private void twice() {
        says(0, "3 TWICE: a NAME told already (of all kinds).");
        String[] tells = {"who %;", "place %;", "time %;", "say %:x at 1 1;", "sure %:x at 1 1;", "ask %:x at 1 1;"};
        for (String first : tells) {
            for (String second : tells) {
                faultAtMark("time x;" + first.replace("%", "nn") + second.replace("%", "#nn"), 3);
                fine("time x;" + first.replace("%", "nn") + second.replace("%", "nm"));
            }
            faultAtMark("time x;" + first.replace("%", "#x"), 3);
        }
        faultAtMark("who abcdefgh;place #abcdefgh;", 3);
        NightHours n = told("who a;place b;");
        faultOver(n, "place a;who b;", 0, -1);
        faultOver(n, "place a;who a;", 3, 12);
        faultOver(n, "place a;who b;", 0, -1);
    }

    private void untold() {
        says(0, "4 NAME: none such of its kind told ahead (a PERSON, PLACES, TIMES).");
        String[][] uses = {
            {"way % ba 5;", "bb"}, {"way ba % 5;", "bb"}, {"time zz of % in ba;", "aa"}, {"time zz of aa in %;", "bb"},
            {"say zz:% at 1 1;", "cb"}, {"say zz:ca behind % 1 1;", "cb"}, {"say zz:ca at 1 1 and % at 1 1;", "cb"}, {"say zz:ca at 1 1 or % at 1 1;", "cb"},
            {"say zz trust 5:% behind ca 1 1;", "cb"}, {"sure zz:% at 1 1;", "cb"}, {"sure zz:ca behind % 1 1;", "cb"},
            {"ask zz:% at 1 1;", "cb"}, {"ask zz:ca behind % 1 1;", "cb"}, {"open % behind ca 1 1;", "cb"}, {"open ca behind % 1 1;", "cb"},
        };
        String[][] behind = {{"aa", "who nn;"}, {"bb", "place nn;"}, {"cb", "time nn;"}};
        for (String[] use : uses) {
            for (String name : new String[] {"aa", "bb", "cb", "da", "ea", "fa", "nn", "zz", "cbb"}) {
                if (name.equals(use[1])) {
                    fine(NAMES + use[0].replace("%", name));
                } else {
                    faultAtMark(NAMES + use[0].replace("%", "#" + name), 4);
                }
            }
            for (String[] tell : behind) {
                faultAtMark(NAMES + use[0].replace("%", "#nn") + tell[1], 4);
                if (tell[0].equals(use[1])) {
                    fine(NAMES + tell[1] + use[0].replace("%", "nn"));
                }
            }
        }
        NightHours n = told("time x;who p;place a;");
        faultOver(n, "say s:x at 1 1;", 4, 6);
        faultOver(n, "time y of p in a;", 4, 10);
    }

    private void wrongIntegers() {
        says(0, "5 WRONG: an INT above 1440,");
        String[] uses = {
            "place a;place b;way a b %;", "time x;say s:x at % 1440;", "time x;say s:x at 0 %;", "time x;time y;say s:x behind y % 1440;",
            "time x;time y;say s:x behind y -% 1440;", "time x;time y;say s:x behind y 0 %;", "time x;time y;say s:x behind y 0 -%;",
            "time x;time y;sure s:x behind y - % 1440;", "time x;sure s:x at % %%;", "time x;time y;open x behind y % 1440;", "time x;time y;open x behind y 0 %;",
            "time x;ask q:x at % 1440;", "time x;ask q:x at 0 %;", "time x;time y;ask q:x behind y -% 0;", "time x;time y;ask q:x behind y 0 -%;",
            "time x;say s:x at 0 1 or x at 0 1 or x at 0 1 or x at 0 1 and x at 0 1 and x at 0 %;",
        };
        for (String use : uses) {
            String text = use.replace("%%", "1440");
            for (String right : new String[] {"0", "1", "1439", "1440"}) {
                fine(text.replace("%", right));
            }
            for (String great : new String[] {"1441", "1500", "2000", "9999"}) {
                faultAtMark(text.replace("%", "#" + great), 5);
            }
        }

        says(0, "trust 0 or above 100 (at it);");
        for (String right : new String[] {"1", "2", "99", "100", "0100", "001"}) {
            fine("time x;say s trust " + right + ":x at 1 1;");
        }
        for (String not : new String[] {"0", "00", "0000", "101", "200", "0101", "1440", "1441", "9999"}) {
            faultAtMark("time x;say s trust #" + not + ":x at 1 1;", 5);
        }
        due("price of trust 100", told("time x;say s trust 100:x at 2 1;").price(), 100);
    }

    private void wrongNames() {
        says(0, "a way from a PLACE to itself (at the second);");
        faultAtMark("place a;place b;way a #a 5;", 5);
        faultAtMark("place a;place b;way b #b 5;", 5);
        faultAtMark("place a;place b;way a #a 1441;", 5);
        fine("place a;place b;way a b 5;way b a 5;");

        String four = "time x;time y;time z;time u;open x behind y 1 2;";
        says(0, "an open TIME that is open already (at it),");
        faultAtMark(four + "open #x behind z 1 2;", 5);
        faultAtMark(four + "open #x behind y 1 2;", 5);
        faultAtMark(four + "open #x behind x 1 2;", 5);
        faultAtMark("time y;time x;open x behind y 1 2;open #x behind y 1 2;", 5);

        says(0, "behind itself or behind an open one, or open while another one is open behind it (at the second NAME).");
        faultAtMark(four + "open z behind #z 1 2;", 5);
        faultAtMark("time x;open x behind #x 1 2;", 5);
        faultAtMark(four + "open z behind #x 1 2;", 5);
        faultAtMark(four + "open y behind #z 1 2;", 5);
        faultAtMark(four + "open y behind #x 1 2;", 5);
        faultAtMark(four + "open z behind y 1 2;open y behind #u 1 2;", 5);
        faultAtMark("time y;time x;time z;open x behind y 1 2;open y behind #z 1 2;", 5);
        faultAtMark("time x;time y;time z;open x behind y 5 1;open z behind #x 1 2;", 5);
        fine(four + "open z behind y 1 2;open u behind y 1 2;");
        fine(four + "open z behind u 1 2;");
        // What was open in the text ahead is open no more.
        NightHours n = told("time x;time y;open x behind y 1 2;");
        faultOver(n, "time x;time y;open y behind x 1 2;", 0, -1);
        faultOver(n, "time x;time y;open x behind y 1 2;open y behind x 1 2;", 5, 48);
        faultOver(n, "time x;time y;open y behind x 1 2;", 0, -1);
    }

    /** A night in which each call has something to tell. */
    private static final String RICH = "who p;who q;place a;place b;way a b 20;time x of p in a;time y of p in b;time z;time o;"
        + "open o behind z 5 9;sure t:z at 600 600;say s trust 7:x behind z -60 -30 or x behind z 10 50;say u:y at 590 610;say v:x at 0 1;"
        + "ask k:x at 0 600;ask l:y behind z 0 1440;";

    private NightHours rich() {
        NightHours n = told(RICH);
        n.doubt(3, true);
        n.set(0, 560);
        n.set(2, 600);
        n.pick(0, 0);
        n.pick(1, 0);
        n.pick(2, 0);
        n.pick(100, 1);
        n.more(0, -1, 0, 700);
        n.more(1, 2, -10, 10);
        return n;
    }

    private void changesNothing() {
        says(0, "A text with a FAULT changes nothing;");
        String[] refused = {"time x;say s:x at 5 6", "who a;who b;who c;who d;who e;", "who a;place b;time a;", "place a;time x of a in a;",
            "time x;say s:x behind x -1441 5;"};
        String ahead = RefusedTest.answers(rich());
        for (int fault = 1; fault <= 5; fault++) {
            NightHours n = rich();
            due("FAULT of \"" + refused[fault - 1] + "\"", Tape.read(n, refused[fault - 1]), fault);
            due("the answers of what was told ahead are the same", RefusedTest.answers(n).equals(ahead), true);
            due("fewer() of the two MORE", n.fewer(), 1);
            due("the DOUBTED one", n.forced(3), -1);
            due("the HOUR that is SET", n.bears(1), 0);
            due("what is PICKED", n.ring(), 4);
            NightHours empty = new NightHours();
            Tape.read(empty, refused[fault - 1]);
            due("a new object is as new", RefusedTest.answers(empty).equals(RefusedTest.answers(new NightHours())), true);
        }
    }

    private void inPlaceOfTheOneAhead() {
        says(0, "else it is in place of the one ahead,");
        String[] texts = {"", "  ", "who a;", "place a;place b;way a b 5;place c;", "time x;say s:x at 5 6 or x at 7 8 and x at 8 9 or x at 9 9;", TWO, SPENT, MOST_MOVES, RICH};
        for (String text : texts) {
            NightHours n = rich();
            RefusedTest.answers(n);
            faultOver(n, text, 0, -1);
            due("answers as a new object's of \"" + text + "\"", RefusedTest.answers(n).equals(RefusedTest.answers(told(text))), true);
        }
        for (String one : texts) {
            for (String other : texts) {
                inTurn(one, other);
            }
        }

        NightHours n = rich();
        tell(n, RICH);
        says(0, "none of its SAYINGS is DOUBTED,");
        due("forced(3) has no WAY, but it is not DOUBTED", n.forced(3), -2);
        due("pick(3, 0)", n.pick(3, 0), true);
        n.pick(3, -1);
        says(0, "no hours are SET,");
        due("bears(0)", n.bears(0), -4);
        due("breaks()", n.breaks(), -2);
        says(0, "nothing is PICKED,");
        due("stands()", n.stands(), 1);
        due("ring()", n.ring(), -2);
        n.more(0, -1, 2, 1);
        due("ring() without HOURS", n.ring(), 0);
        n.fewer();
        says(0, "there are no MORE spans.");
        due("fewer()", n.fewer(), -1);
        n.doubt(3, true);
        due("the WAY that MORE had ruled out", n.ways(), 2);
        for (int i = 1; i <= 6; i++) {
            due("more(), six of them", n.more(0, -1, 0, 1440), i);
        }
    }

    /** Two texts behind each other, again, and in turn: nothing of the one may be left in the other, whatever was asked in between. */
    private void inTurn(String one, String other) {
        NightHours n = told(one);
        RefusedTest.answers(n);
        for (String text : new String[] {other, other, one, other, one}) {
            tell(n, text);
            due("answers as a new object's of \"" + text + "\"", RefusedTest.answers(n).equals(RefusedTest.answers(told(text))), true);
        }
    }

    private void newObject() {
        says(0, "An object is used for at most 512 calls after it has been made;");
        NightHours used = told("time x;say s:x at 5 9 or x at 11 12;");
        // Two calls of feed, one of back, one of read, then 507 and the last.
        for (int i = 0; i < 507; i++) {
            used.doubt(0, i % 2 == 0);
        }
        used.doubt(0, false);
        due("ways() as the 512th call or one behind it", used.ways(), 2);

        says(1, "Nothing is told.");
        NightHours n = new NightHours();
        for (int what = 0; what <= 7; what++) {
            due("count(" + what + ")", n.count(what), 0);
        }
        due("count(10)", n.count(10), -1);
        due("place()", n.place(), -1);
        due("doubt, set, pick", n.doubt(0, true) || n.doubt(0, false) || n.set(0, 0) || n.set(0, -1) || n.pick(0, 0) || n.pick(100, 0) || n.pick(0, -1), false);
        int[] none = {n.walk(0, 0), n.move(0, 0), n.choice(0, 0), n.goes(0, 0), n.hour(0, 0, true), n.ends(0, true), n.can(0, 0), n.forced(0), n.bears(0),
            n.quarrel(0), n.ringAt(0), n.could(0, 0, 0, 0), n.been(0, 0, true), n.ask(0, true), n.left(1, 0), n.left(0, 1), n.more(0, -1, 0, 0), n.fewer(),
            n.tried(0, 0), n.slack(0, 0, true), n.drawn(0, 0, 0), n.alone(0), n.kept(1), n.hand(0, 0), n.givingUp(1), n.back(1)};
        for (int i = 0; i < none.length; i++) {
            due("answer " + i + " of those for which there is nothing", none[i], -1);
        }
        int[] got = {n.ways(), n.gap(0, 0, 0, true), n.breaks(), n.quarrels(), n.givingUps(), n.givingUp(0), n.cheapest(), n.price(), n.stands(), n.ring(),
            n.next(), n.left(0, 0), n.plan(0), n.plan(1), n.first(0), n.first(1), n.setWays(), n.give(), n.kept(0), n.keep(), n.back(0)};
        int[] want = {1, -10000, -2, 0, 1, 0, 0, 0, 1, -2, -2, 1, -2, 0, -2, -2, 1, 0, 1, 0, 0};
        for (int i = 0; i < want.length; i++) {
            due("answer " + i + " of those that need nothing told", got[i], want[i]);
        }
        NightHours other = rich();
        due("one object knows nothing of another", n.count(0) + other.count(0), 2);
    }

    private void feeding() {
        says(2, "Twenty bytes, the highest of a first, come behind the tape: how many it has.");
        NightHours n = new NightHours();
        // "who abcd;place efgh;" and then "time x of abcd in ef" and "gh;who i;place j;k .."
        due("feed", n.feed(0x77686f20, 0x61626364, 0x3b706c61, 0x63652065, 0x6667683b), 20);
        due("feed", n.feed(0x74696d65, 0x2078206f, 0x66206162, 0x63642069, 0x6e206566), 40);
        due("feed", n.feed(0x67683b77, 0x686f2069, 0x3b706c61, 0x6365206a, 0x3b6b2020), 60);
        due("read() up to the k", n.read(), 1);
        due("place() of the k", n.place(), 57);
        due("feed", n.feed(0x77686f20, 0x61626364, 0x3b706c61, 0x63652065, 0x6667683b), 20);
        due("read()", n.read(), 0);
        due("PERSONS", n.count(0), 1);
        due("PLACES", n.count(1), 1);
        due("feed of bytes above 127", n.feed(0x20202020, 0x202020ff, 0xff800000, 0, LOW), 20);
        due("read() of bytes above 127", n.read(), 1);
        due("place() of the first of them", n.place(), 7);

        says(2, "NONE, and nothing comes, if it would have more than 2,000.");
        for (int i = 1; i <= 100; i++) {
            due("feed " + i, n.feed(0x20202020, 0x20202020, 0x20202020, 0x20202020, 0x20202020), 20 * i);
        }
        due("feed of 2,001 to 2,020", n.feed(0x3f3f3f3f, 0, 0, 0, 0), -1);
        due("count(7)", n.count(7), 2000);
        due("back(19)", n.back(19), 1981);
        due("feed of 1,982 to 2,001", n.feed(0x3f3f3f3f, 0, 0, 0, 0), -1);
        due("count(7)", n.count(7), 1981);
        due("back(1)", n.back(1), 1980);
        due("feed of 1,981 to 2,000", n.feed(0x20202020, 0x20202020, 0x20202020, 0x20202020, 0x20202020), 2000);
        due("read() of blanks alone", n.read(), 0);
        due("feed behind read()", n.feed(0, 0, 0, 0, 0), 20);
    }

    private void takingBack() {
        says(3, "The last n bytes of the tape go: how many it has.");
        NightHours n = new NightHours();
        Tape.put(n, "who a;who b;?");
        due("back(0)", n.back(0), 13);
        due("back(1)", n.back(1), 12);
        due("read() without the last byte", n.read(), 0);
        due("PERSONS", n.count(0), 2);
        Tape.put(n, "who a;?");
        due("back of all", n.back(7), 0);
        due("back(0) of an empty tape", n.back(0), 0);
        Tape.put(n, "who c;");
        due("read() of what came behind", n.read(), 0);
        due("PERSONS", n.count(0), 1);
        for (int i = 0; i < 100; i++) {
            n.feed(0, 0, 0, 0, 0);
        }
        due("back(2000)", n.back(2000), 0);
        // What has gone is no part of the last word or number, though it stood right behind it.
        Tape.put(n, "who a;who");
        n.back(1);
        due("read() of a word without its end", n.read(), 1);
        due("place() of it", n.place(), 6);
        Tape.put(n, "place a;place b;way a b 12345");
        n.back(1);
        due("read() of a number without its end", n.read(), 1);
        due("place() of the text's end", n.place(), 28);

        says(3, "NONE, and nothing goes, if it has not so many, or n is below 0.");
        due("back(1) of an empty tape", n.back(1), -1);
        due("back(HIGH) of an empty tape", n.back(HIGH), -1);
        Tape.put(n, "who a;who b;");
        for (int i : new int[] {13, 14, 2000, 2001, HIGH, -1, -12, -13, LOW, LOW + 1}) {
            due("back(" + i + ")", n.back(i), -1);
            due("count(7) behind back(" + i + ")", n.count(7), 12);
        }
        due("read() of all that was there", n.read(), 0);
        due("PERSONS", n.count(0), 2);
    }

    private void reading() {
        says(4, "The tape, which is empty then, is read: 0, or the number of its FAULT.");
        NightHours n = new NightHours();
        due("read() of an empty tape", n.read(), 0);
        String[] texts = {"who a;", "who", "who a;who b;who c;who d;who e;", "who a;who a;", "time x of p in q;", "time x;open x behind x 1 2;"};
        for (int fault = 0; fault <= 5; fault++) {
            Tape.put(n, texts[fault]);
            due("read() of \"" + texts[fault] + "\"", n.read(), fault);
            due("count(7) behind it", n.count(7), 0);
            due("back(1) behind it", n.back(1), -1);
        }
        due("PERSONS are those of the text without a FAULT", n.count(0), 1);
        due("read() again: an empty text is in place", n.read(), 0);
        due("PERSONS", n.count(0), 0);
    }

    private void placing() {
        says(5, "The byte of the latest read()'s FAULT;");
        NightHours n = new NightHours();
        String[] texts = {"?", " ?", "who a;who", "who a;who a;", "time x of p in q;", "time x;say s trust 0:x at 1 1;"};
        int[] places = {0, 1, 9, 10, 10, 19};
        for (int i = 0; i < texts.length; i++) {
            Tape.read(n, texts[i]);
            due("place() of \"" + texts[i] + "\"", n.place(), places[i]);
            due("place() again", n.place(), places[i]);
        }
        n.feed(0, 0, 0, 0, 0);
        n.back(20);
        n.ways();
        due("place() behind other calls", n.place(), 19);

        says(5, "NONE without.");
        due("place() of a new object", new NightHours().place(), -1);
        n.read();
        due("place() behind a text without a FAULT", n.place(), -1);
        Tape.read(n, "?");
        Tape.read(n, "who a;");
        due("place() behind a text without a FAULT", n.place(), -1);
    }
}
