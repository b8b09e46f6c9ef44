import java.lang.reflect.InvocationTargetException;
import java.lang.reflect.Method;
import java.util.ArrayList;
import java.util.List;

/** The boundary cases: for each sentence of the document that names one a test that fails if the sentence is broken. */
public final class PuntYardEdges {
    private static final int NONE = PuntYard.NONE;
    private static final int NO_COIN = -1000000;
    private static final int LEAST = Integer.MIN_VALUE;
    private static final int MOST = Integer.MAX_VALUE;
    private static int wrong = 0;
    private static String sentence = "";

    /** A call that may be made on any yard. */
    private interface Call {
        long on(PuntYard x);
    }

    /** A call with one argument left open. */
    private interface Open {
        long on(PuntYard x, int v);
    }

    /** What makes the same yard each time. */
    private interface Maker {
        PuntYard made();
    }

    public static void main(String[] args) throws Exception {
        terms();
        numbersOfTexts();
        tokensOfTexts();
        facesOfTexts();
        depthsOfTexts();
        lawsOfDays();
        withoutRules();
        behindFaults();
        river();
        spells();
        weed();
        tape();
        hires();
        mends();
        tellings();
        fullTellings();
        knownBy();
        toldLater();
        toldLast();
        outAtMoments();
        shutAtMoments();
        shutByWords();
        free();
        prices();
        lateness();
        wet();
        harm();
        cushions();
        deposits();
        sums();
        worst();
        together();
        wornAndOld();
        differ();
        queues();
        chances();
        keep();
        leastBoats();
        protect();
        roller();
        guides();
        guideOfSeveral();
        poles();
        paint();
        renew();
        touts();
        swans();
        regattas();
        images();
        restoredOver();
        counts();
        newObject();
        anyArguments();
        System.out.println(wrong == 0 ? "all edges hold" : wrong + " answers at the edges are not as due");
        if (wrong != 0) {
            System.exit(1);
        }
    }

    // ---- what tests are made of

    private static void due(String what, long got, long want) {
        if (got != want) {
            wrong++;
            System.out.println("'" + sentence + "': " + what + " answered " + got + ", due is " + want);
        }
    }

    private static int bit(boolean answer) {
        return answer ? 1 : 0;
    }

    private static void feedText(PuntYard x, String text) {
        StringBuilder padded = new StringBuilder(text);
        while (padded.length() % 20 != 0) {
            padded.append(' ');
        }
        for (int i = 0; i < padded.length(); i += 20) {
            int[] n = new int[5];
            for (int k = 0; k < 20; k++) {
                n[k / 4] = n[k / 4] << 8 | padded.charAt(i + k) & 255;
            }
            x.feed(n[0], n[1], n[2], n[3], n[4]);
        }
    }

    private static int law(PuntYard x, String text, int day) {
        feedText(x, text);
        return x.law(text.length(), day);
    }

    private static PuntYard under(String text, int... kinds) {
        PuntYard x = new PuntYard();
        due("law of '" + text + "'", law(x, text, 0), 0);
        for (int kind : kinds) {
            x.boat(kind);
        }
        return x;
    }

    private static void faultAt(String text, int place) {
        PuntYard x = new PuntYard();
        String named = text.length() > 60 ? text.substring(0, 60) + ".." : text;
        due("law of '" + named + "'", law(x, text, 0), place == NONE ? 0 : NONE);
        due("fault of '" + named + "'", x.fault(), place);
    }

    private static String times(int n, String text) {
        return text.repeat(n);
    }

    // One of everything, and a tape that holds a text.
    private static PuntYard rich() {
        PuntYard x = new PuntYard();
        fillRich(x);
        x.image();
        feedText(x, "rain 7;cushion 8;");
        return x;
    }

    private static void fillRich(PuntYard x) {
        law(x, "price 0 10 each 30;price 1 7 each 20;deposit 0 40;deposit 1 9;late 4 each 15 grace 5;rain 50;"
            + "right 3 0 20;cushion 3;busy 100 to 199 50;harm 10 if water<40;harm 20 if water>60;"
            + "shut if water<40;shut if water>60;", 0);
        int[] kinds = {0, 0, 0, 1};
        for (int kind : kinds) {
            x.boat(kind);
        }
        x.out(0, 3, 100, 60);
        x.out(1, 4, 110, 30);
        x.back(0, 190);
        x.swamp(0, 50);
        x.cushions(0, 5, 1);
        x.rain(0, 130, 139);
        x.weed(3);
        x.cut(10);
        x.doubt(10, 20);
        for (int hour = 0; hour < 12; hour++) {
            x.chance(hour, 0, 3);
            x.chance(hour, 1, 3);
            x.chance(hour, 5, 4);
        }
        x.roll(5, 50);
        x.roll(6, 1);
        x.guide(3);
        x.guide(1);
        x.party(1, 100);
        x.pay(50);
        x.party(2, 70);
        x.pass(0, 0xff, false);
        x.pass(1, 0x0f, true);
        x.paint(0, 3, 30);
        x.paint(2, 1, 20);
        x.fail(0, 30, 300);
        x.fail(2, 99, 90);
        x.loyal(30);
        x.loyal(5);
        x.nest(3, 0, 5);
        x.nest(2, 6, 6);
        x.regatta(0, 150, 160, 0xf0);
        x.regatta(5, 10, 20, 0x0700);
    }

    // As much as fillRich, and nothing of it alike; the LAWS stay.
    private static void fillOther(PuntYard x) {
        int[] kinds = {1, 1, 1, 0};
        for (int kind : kinds) {
            x.boat(kind);
        }
        x.out(3, 5, 200, 7);
        x.swamp(0, 78);
        x.out(2, 6, 210, 8);
        x.swamp(1, 77);
        x.cushions(1, 9, 0);
        x.back(1, 290);
        x.water(0, 55);
        x.rain(3, 1, 2);
        x.roll(99, 1);
        x.roll(9, 70);
        x.guide(4);
        x.guide(8);
        x.party(8, 300);
        x.pay(90);
        x.party(4, 7);
        x.party(8, 6);
        x.pass(0, 0xff00, true);
        x.pass(1, 0xf00f, true);
        x.paint(0, 9, 9);
        x.paint(1, 8, 8);
        x.paint(2, 7, 7);
        x.fail(0, 3, 3);
        x.fail(1, 3, 3);
        x.fail(2, 3, 3);
        x.loyal(300);
        x.loyal(400);
        x.nest(9, 0, 0);
        x.nest(2, 0, 6);
        x.regatta(1, 700, 719, 0x0f);
        x.regatta(5, 10, 700, 0x0700);
        x.cut(3);
        x.doubt(1, 2);
        x.chance(0, 0, 1);
        x.chance(11, 0, 7);
        x.chance(11, 5, 0);
    }

    // All that can be asked, in some 250 calls; what is left on the tape is read last.
    private static List<Long> all(PuntYard x) {
        List<Long> row = new ArrayList<>();
        row.add((long) x.fault());
        for (int what = 0; what < 14; what++) {
            row.add((long) x.count(what));
        }
        int[] days = {200, 201, 205, 211, 299};
        for (int what : days) {
            row.add((long) x.count(what));
        }
        int[] rules = {0, 10, 11, 12, 13, 20, 21, 22, 23, 30, 31, 32, 33, 40, 41, 42, 43, 44, 100, 130, 131, 193};
        for (int what : rules) {
            row.add((long) x.rule(0, what));
        }
        row.add((long) x.rule(50, 0));
        row.add((long) x.rule(99, 0));
        askHires(x, row);
        askYard(x, row);
        askSearches(x, row);
        row.add((long) x.law(x.count(8), 0));
        row.add((long) x.fault());
        row.add((long) x.rule(0, 0));
        row.add((long) x.rule(0, 43));
        row.add((long) x.rule(0, 44));
        return row;
    }

    private static void askHires(PuntYard x, List<Long> row) {
        int last = x.count(3);
        for (int h = 0; h < 3; h++) {
            for (int what = 0; what < 7; what++) {
                row.add((long) x.hire(h, what));
            }
            row.add((long) x.known(h, last));
            row.add((long) x.known(h, last - 1));
            for (int what = 0; what < 9; what++) {
                row.add((long) x.bill(h, last, what));
            }
            row.add((long) x.barred(h, last));
            row.add((long) x.pole(h));
        }
        row.add((long) x.differ(0, last, NONE));
        row.add((long) x.differ(last - 1, last, NONE));
    }

    private static void askYard(PuntYard x, List<Long> row) {
        int last = x.count(3);
        int[] moments = {0, 120, 200, 7210, 71999};
        for (int moment : moments) {
            for (int b = 0; b < 4; b++) {
                row.add((long) x.free(b, moment));
            }
            row.add((long) x.outs(moment, last));
        }
        for (int what = 0; what < 2; what++) {
            row.add((long) x.worst(0, last, what));
            row.add((long) x.together(3, 4, 0, last, what));
            row.add((long) x.worn(0, last, what));
            row.add((long) x.worn(1, last, what));
            row.add((long) x.queue(0, 2, 120, what));
            row.add((long) x.queue(0, 3, 120, what));
        }
        row.add((long) x.takings(0, last));
        row.add((long) x.takings(99, last));
        row.add((long) x.cost(3, last));
        row.add((long) x.cost(4, last));
        row.add((long) x.old(0, last));
        row.add((long) x.old(1, last));
    }

    private static void askSearches(PuntYard x, List<Long> row) {
        for (int n = 1; n < 4; n++) {
            row.add(x.keep(2, n, 0));
            row.add(x.keep(5, n, 1));
            row.add((long) x.least(n, 50));
        }
        for (int what = 0; what < 2; what++) {
            row.add((long) x.protect(3, 5, 9, what));
            row.add((long) x.painted(1, what));
            row.add((long) x.painted(2, what));
            row.add((long) x.renew(3, what));
            row.add((long) x.guided(what));
            row.add((long) x.guided(10 + what));
            row.add((long) x.rolled(10 + what));
            row.add((long) x.earned(what));
        }
        row.add((long) x.rolled(0));
        row.add((long) x.earned(NONE));
        for (int what = 0; what < 4; what++) {
            row.add((long) x.tout(50, 5, what));
        }
    }

    private static void refused(String what, Maker maker, Call call, long want) {
        PuntYard touched = maker.made();
        due(what, call.on(touched), want);
        due(what + " changes nothing (answers alike)", bit(all(touched).equals(all(maker.made()))), 1);
    }

    private static void done(String what, Maker maker, Call call, long refusal) {
        due(what + " is refused", bit(call.on(maker.made()) == refusal), 0);
    }

    // The ends of what is allowed are taken, what lies beyond is refused and changes nothing.
    private static void range(String what, int low, int high, long refusal, Open call) {
        int[] inside = {low, high};
        int[] beyond = {low - 1, high + 1, LEAST, MOST};
        for (int v : inside) {
            done(what + " " + v, PuntYardEdges::rich, x -> call.on(x, v), refusal);
        }
        for (int v : beyond) {
            refused(what + " " + v, PuntYardEdges::rich, x -> call.on(x, v), refusal);
        }
    }

    // ---- Terms

    private static void terms() {
        sentence = "DAYS 0 to 99";
        range("law, day", 0, 99, -2, (x, v) -> x.law(7, v));
        range("rule, day", 0, 99, NONE, (x, v) -> x.rule(v, 10));
        range("water, day", 0, 99, 0, (x, v) -> bit(x.water(v, 50)));
        range("rain, day", 0, 99, NONE, (x, v) -> x.rain(v, 1, 2));
        range("cut, day", 0, 99, 0, (x, v) -> bit(x.cut(v)));
        range("takings, day", 0, 99, NO_COIN, (x, v) -> x.takings(v, 5));
        range("worst, day", 0, 99, NONE, (x, v) -> x.worst(v, 5, 0));
        range("together, day", 0, 99, NONE, (x, v) -> x.together(3, 4, v, 5, 0));
        range("nest, to", 5, 99, NONE, (x, v) -> x.nest(1, 5, v));
        range("nest, from", 0, 50, NONE, (x, v) -> x.nest(1, v, 50));
        range("regatta, day", 0, 99, NONE, (x, v) -> x.regatta(v, 1, 2, 1));
        sentence = "MINUTES 0 to 719";
        range("rain, from", 0, 719, NONE, (x, v) -> x.rain(1, v, 719));
        range("rain, to", 0, 719, NONE, (x, v) -> x.rain(1, 0, v));
        range("rain, to not ahead of from", 300, 719, NONE, (x, v) -> x.rain(1, 300, v));
        range("regatta, from", 0, 719, NONE, (x, v) -> x.regatta(1, v, 719, 1));
        range("regatta, to", 0, 719, NONE, (x, v) -> x.regatta(1, 0, v, 1));
        range("regatta, to not ahead of from", 300, 719, NONE, (x, v) -> x.regatta(1, 300, v, 1));
        range("roll, minute", 0, 719, NONE, (x, v) -> x.roll(v, 1));
        sentence = "a MOMENT: 720 times its DAY and its MINUTE";
        range("free, moment", 0, 71999, NONE, (x, v) -> x.free(2, v));
        range("out, moment", 0, 71999, NONE, (x, v) -> x.out(2, 0, v, 1));
        range("outs, moment", 0, 71999, NONE, (x, v) -> x.outs(v, 5));
        range("queue, moment", 0, 71999, NONE, (x, v) -> x.queue(0, 1, v, 0));
        sentence = "KINDS of boats 0 to 3";
        range("boat, kind", 0, 3, NONE, (x, v) -> x.boat(v));
        PuntYard x = under("", 0, 1, 2, 3);
        for (int kind = 0; kind < 4; kind++) {
            due("queue of kind " + kind, x.queue(kind, 1, 0, 0), 0);
        }
        due("queue of kind -1", x.queue(-1, 1, 0, 0), NONE);
        due("queue of kind 4", x.queue(4, 1, 0, 0), NONE);
        sentence = "WHO hires 0 to 9";
        range("out, who", 0, 9, NONE, (y, v) -> y.out(2, v, 300, 1));
        range("cost, who", 0, 9, NONE, (y, v) -> y.cost(v, 5));
        range("together, one", 0, 9, NONE, (y, v) -> y.together(v, 4, 0, 5, 0));
        range("together, other", 0, 9, NONE, (y, v) -> y.together(3, v, 0, 5, 0));
        sentence = "rule: NONE: none such";
        for (int what = -200; what < 400; what++) {
            int k = what % 10;
            boolean isSuch = what >= 10 && what < 40 && k < 4 || what >= 40 && what < 45
                || what >= 100 && what < 200 && k < 4;
            due("rule " + what + " of a new object", new PuntYard().rule(0, what) != NONE ? 1 : 0, bit(isSuch));
        }
        due("rule least", new PuntYard().rule(0, LEAST), NONE);
        due("rule most", new PuntYard().rule(0, MOST), NONE);
    }

    private static void numberIn(String ahead, int low, int high, String behind) {
        faultAt(ahead + low + behind, NONE);
        faultAt(ahead + high + behind, NONE);
        faultAt(ahead + String.format("%03d", low) + behind, NONE);
        faultAt(ahead + String.format("%03d", high) + behind, NONE);
        if (low > 0) {
            faultAt(ahead + (low - 1) + behind, ahead.length());
        }
        faultAt(ahead + (high + 1) + behind, ahead.length());
        faultAt(ahead + 999999999 + behind, ahead.length());
        faultAt(ahead + "4294967297" + behind, ahead.length());
        faultAt(ahead + String.format("%04d", low) + behind, ahead.length());
        faultAt(ahead + "x" + behind, ahead.length());
        faultAt(ahead, ahead.length());
    }

    private static void numbersOfTexts() {
        sentence = "KINDS of boats 0 to 3, in texts";
        numberIn("price ", 0, 3, " 1 each 1;");
        numberIn("deposit ", 0, 3, " 1;");
        numberIn("right 0 ", 0, 3, " 1;");
        sentence = "WHO hires 0 to 9, in texts";
        numberIn("right ", 0, 9, " 0 1;");
        sentence = "COIN: 0 to 999";
        numberIn("price 0 ", 0, 999, " each 1;");
        numberIn("deposit 0 ", 0, 999, ";");
        numberIn("late ", 0, 999, " each 1 grace 0;");
        numberIn("cushion ", 0, 999, ";");
        sentence = "SPAN: 1 to 240";
        numberIn("price 0 1 each ", 1, 240, ";");
        numberIn("late 1 each ", 1, 240, " grace 0;");
        numberIn("right 0 0 ", 1, 240, ";");
        sentence = "GRACE: 0 to 240";
        numberIn("late 1 each 1 grace ", 0, 240, ";");
        sentence = "PART: 0 to 100";
        numberIn("busy 0 to 0 ", 0, 100, ";");
        numberIn("rain ", 0, 100, ";");
        numberIn("harm ", 0, 100, ";");
        numberIn("harm ", 0, 100, " if day=1;");
        sentence = "MINUTES 0 to 719, in texts";
        numberIn("busy ", 0, 719, " to 719 1;");
        numberIn("busy 0 to ", 0, 719, " 1;");
        sentence = "\"to\" not below the MINUTE ahead";
        numberIn("busy 300 to ", 300, 719, " 1;");
        numberIn("busy 719 to ", 719, 719, " 1;");
        sentence = "NUMBER: 0 to 999";
        String[] words = {"water", "rain", "day", "week", "minute", "out", "kind", "weed"};
        String[] signs = {"<", ">", "="};
        for (String word : words) {
            for (String sign : signs) {
                numberIn("shut if " + word + sign, 0, 999, ";");
                numberIn("harm 5 if " + word + sign, 0, 999, ";");
            }
        }
        sentence = "rule answers what the text said, at its ends";
        PuntYard x = under("price 3 999 each 240;deposit 3 999;late 999 each 240 grace 240;rain 100;cushion 999;"
            + "right 9 3 240;price 0 0 each 1;deposit 0 0;right 0 0 1;");
        int[][] want = {{13, 999}, {23, 240}, {33, 999}, {40, 999}, {41, 240}, {42, 240}, {43, 100}, {44, 999},
            {193, 240}, {10, 0}, {20, 1}, {30, 0}, {100, 1}, {12, 0}, {22, 60}, {32, 0}, {103, 0}, {190, 0}};
        for (int[] pair : want) {
            due("rule " + pair[0], x.rule(0, pair[0]), pair[1]);
        }
        PuntYard low = under("late 0 each 1 grace 0;rain 0;cushion 0;");
        int[][] wantLow = {{40, 0}, {41, 1}, {42, 0}, {43, 0}, {44, 0}};
        for (int[] pair : wantLow) {
            due("rule " + pair[0], low.rule(0, pair[0]), pair[1]);
        }
    }

    // Texts by tokens, so that each may be cut or followed by something odd.
    private static final String[] TOKENS = {"price", "0", "10", "each", "30", ";", "busy", "1", "to", "2", "3", ";",
        "deposit", "1", "4", ";", "late", "4", "each", "15", "grace", "5", ";", "rain", "50", ";", "right", "3", "0", "20",
        ";", "cushion", "3", ";", "harm", "10", ";", "harm", "10", "if", "not", "(", "water", "<", "40", "or", "week", "=",
        "1", ")", "and", "day", ">", "3", ";", "shut", "if", "out", "=", "1", ";"};
    // Places in TOKENS where more than the token itself may stand.
    private static final int BEHIND_HARM = 36;
    private static final int BEHIND_HARM_IF = 39;
    private static final int BEHIND_FIRST_TEST = 45;
    private static final int BEHIND_BRACKET = 50;

    private static void tokensOfTexts() {
        sentence = "FAULT: the text's length, if more must come";
        String text = "";
        for (int i = 0; i <= TOKENS.length; i++) {
            boolean isWhole = i == 0 || TOKENS[i - 1].equals(";");
            faultAt(text, isWhole ? NONE : text.length());
            faultAt(text + " \n ", isWhole ? NONE : text.length() + 3);
            text += i < TOKENS.length ? TOKENS[i] + " " : "";
        }
        sentence = "FAULT: the first token (or byte that begins none) with which no such text goes on";
        text = "";
        for (int i = 0; i <= TOKENS.length; i++) {
            String[] odd = {"#", "\t", "\r", "\0", "!", "/", ":", "`", "{", "A", "Z", "-", "+", ",", "\u007f", "\u0080",
                "\u00a0", "\u00e9", "\u00ff", "?", "@", "\u001f", "9999", "pric", "abcdefg", "abcdefgh", "depositx"};
            for (String other : odd) {
                faultAt(text + other, text.length());
                faultAt(text + other + " rain 5;", text.length());
            }
            if (i < TOKENS.length && Character.isLetter(TOKENS[i].charAt(0))) {
                String word = TOKENS[i];
                String[] misspelt = {"q" + word.substring(1), word.substring(0, word.length() - 1) + "q", word + "q",
                    word.substring(1) + "q", word.substring(0, word.length() - 1), word.substring(1), word + word};
                for (String other : misspelt) {
                    faultAt(text + other + " ", text.length());
                }
            }
            text += i < TOKENS.length ? TOKENS[i] + " " : "";
        }
        sentence = "FAULT: the first token with which no such text goes on, of those that are tokens elsewhere";
        tokensInPlaceOfOthers();
        sentence = "between them blanks (bytes 32 and 10)";
        faultAt("\n rain \n\n 5\n;\n", NONE);
        faultAt("rain" + times(890, "\n") + "5;", NONE);
        faultAt(times(450, " \n"), NONE);
        sentence = "Tokens as long as they go";
        faultAt("rain5;cushion7;price0 1each2;shut if(not(day=1))and(out<2);", NONE);
        faultAt("price 01each2;", 8);
        faultAt("rainz5;", 0);
        faultAt("raina5;", 0);
        faultAt("rain`5;", 4);
        faultAt("rain{5;", 4);
        faultAt("rain 0z;", 6);
        faultAt("rain 9/;", 6);
        faultAt("rain 9:;", 6);
        faultAt("rain 90;rain 09;", NONE);
        faultAt(times(900, ";"), 0);
        faultAt(times(900, "("), 0);
        faultAt(times(900, "9"), 0);
        faultAt(times(900, "a"), 0);
        faultAt("rain 5;" + times(893, "="), 7);
        faultAt("rain 5;r ain 5;", 7);
        faultAt("rain 5;ra\nin 5;", 7);
        faultAt("cushion 1 2;", 10);
        faultAt("shut if day=1orday=2;", 13);
        faultAt("shut if day=1or day=2;", NONE);
        faultAt("shut if day=1 orday=2;", 14);
        faultAt("shut if notday=2;", 8);
        faultAt("shut if not(day=2);", NONE);
        faultAt("shut if day==2;", 12);
        faultAt("shut if day<>2;", 12);
        faultAt("shut if day<=2;", 12);
        faultAt("shutif day=2;", 0);
    }

    // Where a token stands, those that may stand there too are named; all others are refused there.
    private static void tokensInPlaceOfOthers() {
        String[] others = {";", "(", ")", "<", ">", "=", "0", "price", "busy", "deposit", "late", "rain", "right", "cushion",
            "harm", "shut", "each", "to", "grace", "if", "or", "and", "not", "water", "day", "week", "minute", "out", "kind",
            "weed"};
        String heads = " price busy deposit late rain right cushion harm shut ";
        String words = " water rain day week minute out kind weed ";
        String text = "";
        for (int i = 0; i <= TOKENS.length; i++) {
            String may = i < TOKENS.length ? " " + TOKENS[i] + " " : "";
            String ahead = i == 0 ? ";" : TOKENS[i - 1];
            boolean asksOne = ahead.equals("if") || ahead.equals("not") || ahead.equals("(") || ahead.equals("or")
                || ahead.equals("and");
            boolean behindTest = i > 1 && (TOKENS[i - 2].equals("=") || TOKENS[i - 2].equals("<") || TOKENS[i - 2].equals(">"));
            may += ahead.equals(";") ? heads : "";
            may += asksOne ? words + "not ( " : "";
            may += words.contains(" " + ahead + " ") && i < TOKENS.length && !TOKENS[i].matches("[0-9]+") ? " < > = " : "";
            may += behindTest || ahead.equals(")") ? " or and " : "";
            may += i == BEHIND_HARM ? " if " : i == BEHIND_HARM_IF || i == BEHIND_BRACKET ? " ; " : "";
            may += i < TOKENS.length && TOKENS[i].equals("40") ? " 0 " : "";
            may += i == BEHIND_FIRST_TEST ? " ) " : "";
            for (String other : others) {
                boolean isNumber = other.equals("0") && i < TOKENS.length && TOKENS[i].matches("[0-9]+");
                if (!may.contains(" " + other + " ") && !isNumber) {
                    faultAt(text + other, text.length());
                }
            }
            text += i < TOKENS.length ? TOKENS[i] + " " : "";
        }
    }

    private static void facesOfTexts() {
        sentence = "{RULE \";\"}, at most 40";
        faultAt(times(39, "rain 1;"), NONE);
        faultAt(times(40, "rain 1;"), NONE);
        faultAt(times(41, "rain 1;"), 280);
        faultAt(times(40, "cushion 1;") + " \n", NONE);
        String[] kinds = {"price 0 1 each 1;", "busy 1 to 2 3;", "deposit 0 1;", "late 1 each 1 grace 1;", "rain 1;",
            "right 0 0 1;", "cushion 1;", "harm 1;", "harm 1 if day=1;", "shut if day=1;"};
        sentence = "FAULT: the 41st RULE: where it begins";
        for (String kind : kinds) {
            faultAt(times(39, "rain 1;") + kind, NONE);
            faultAt(times(40, "rain 1;") + "\n " + kind, 282);
            faultAt(times(40, kind), NONE);
            faultAt(times(40, kind) + "  rain 101;", 40 * kind.length() + 2);
        }
        faultAt(times(40, "rain 1;") + "  ;", 282);
        sentence = "all \"busy\", \"shut\" do";
        PuntYard x = under("price 0 100 each 240;" + times(39, "busy 5 to 5 1;"), 0);
        x.out(0, 0, 5, 1);
        x.back(0, 6);
        due("39 parts", x.bill(0, 2, 2), 139);
        PuntYard y = under(times(39, "shut if day=1;") + "shut if day=2;", 0);
        due("day 0", y.free(0, 0), 1);
        due("the first one", y.free(0, 720), 0);
        due("the 40th", y.free(0, 1440), 0);
        sentence = "of \"harm\" the first that does (without: 100)";
        PuntYard z = under(times(38, "harm 7 if day=9;") + "harm 40;harm 60;", 0);
        z.out(0, 0, 0, 1);
        z.swamp(0, 100);
        z.back(0, 1);
        due("the 39th", z.bill(0, 3, 5), 40);
        PuntYard none = under("harm 7 if day=9;", 0);
        none.out(0, 0, 0, 1);
        none.swamp(0, 100);
        none.back(0, 1);
        due("without", none.bill(0, 3, 5), 100);
        sentence = "the last one holds";
        PuntYard last = under("price 1 1 each 2;price 1 3 each 4;deposit 1 5;deposit 1 6;late 7 each 8 grace 9;"
            + "late 1 each 2 grace 3;rain 4;rain 5;cushion 6;cushion 7;right 2 1 8;right 2 1 9;right 2 2 10;price 2 9 each 9;");
        int[][] want = {{11, 3}, {21, 4}, {31, 6}, {40, 1}, {41, 2}, {42, 3}, {43, 5}, {44, 7}, {121, 9}, {122, 10}};
        for (int[] pair : want) {
            due("rule " + pair[0], last.rule(0, pair[0]), pair[1]);
        }
    }

    private static void depthsOfTexts() {
        sentence = "\"not\" and \"(\": at most 8 open in one another";
        for (int nots = 0; nots <= 9; nots++) {
            for (int brackets = 0; nots + brackets <= 9; brackets++) {
                String front = "shut if " + times(nots, "not ") + times(brackets, "(");
                String end = "day=1" + times(brackets, ")") + ";";
                int ninth = nots == 9 ? 8 + 32 : 8 + 4 * nots + 8 - nots;
                faultAt(front + end, nots + brackets == 9 ? ninth : NONE);
                String turned = "shut if " + times(brackets, "(") + times(nots, "not ") + end;
                int turnedNinth = brackets == 9 ? 16 : 8 + brackets + 4 * (8 - brackets);
                faultAt(turned, nots + brackets == 9 ? turnedNinth : NONE);
            }
        }
        faultAt("harm 1 if " + times(9, "(") + "day=1", 18);
        sentence = "in one another: what is closed counts no more";
        String eight = times(8, "(") + "day=1" + times(8, ")");
        String eightNots = times(8, "not ") + "day=1";
        faultAt("shut if " + eight + " and " + eight + " or " + eightNots + " and " + eight + ";", NONE);
        faultAt("shut if " + eight + ";shut if " + eightNots + ";", NONE);
        faultAt("shut if (" + times(7, "not ") + "day=1 and " + times(7, "(") + "day=1" + times(7, ")") + ");", NONE);
        String front = "shut if (" + times(7, "not ") + "day=1 and ";
        faultAt(front + times(8, "(") + "day=1", front.length() + 7);
        front = "shut if not (day=1) and ";
        faultAt(front + times(9, "(") + "day=1", front.length() + 8);
        faultAt(front + eight + ";", NONE);
        front = "shut if " + times(8, "(") + "day=1)) and ((day=1) and ";
        faultAt(front + "(day=1" + times(8, ")") + ";", NONE);
        faultAt(front + "((day=1", front.length() + 1);
        sentence = "what stands 8 deep is asked";
        PuntYard x = under("shut if " + times(4, "not (") + "day=1 or day=3" + times(4, ")") + ";", 0);
        due("day 0", x.free(0, 0), 1);
        due("day 1", x.free(0, 720), 0);
        due("day 3", x.free(0, 3 * 720), 0);
        PuntYard odd = under("shut if " + times(7, "not ") + "(day=1);", 0);
        due("day 0", odd.free(0, 0), 0);
        due("day 1", odd.free(0, 720), 1);
    }

    private static void lawsOfDays() {
        sentence = "LAWS, up to 5";
        PuntYard x = new PuntYard();
        for (int i = 0; i < 5; i++) {
            due("law " + i, law(x, "rain " + i + ";", 10 * i), i);
        }
        due("-3: 5 are there", law(x, "rain 9;", 99), -3);
        due("nothing done", x.count(8), 20);
        due("laws", x.count(0), 5);
        due("day 99", x.rule(99, 43), 4);
        due("-3 of a FAULT too", x.law(3, 99), -3);
        due("no FAULT", x.fault(), NONE);
        due("-3 of nothing", x.law(0, 0), -3);
        due("the tape as it was", x.count(8), 20);
        sentence = "the latest DAY up to it";
        int[][] want = {{0, 0}, {9, 0}, {10, 1}, {19, 1}, {20, 2}, {29, 2}, {39, 3}, {40, 4}, {99, 4}};
        for (int[] pair : want) {
            due("day " + pair[0], x.rule(pair[0], 0), pair[1]);
        }
        sentence = "of one DAY the one told last";
        PuntYard same = new PuntYard();
        int[] days = {7, 7, 3, 7, 3};
        for (int i = 0; i < 5; i++) {
            law(same, "rain " + (10 + i) + ";", days[i]);
        }
        due("day 7", same.rule(7, 0), 3);
        due("day 7, rain", same.rule(7, 43), 13);
        due("day 6", same.rule(6, 0), 4);
        due("day 3", same.rule(3, 43), 14);
    }

    private static void withoutRules() {
        sentence = "none: one without RULES";
        PuntYard same = new PuntYard();
        law(same, "rain 14;price 3 1 each 2;", 3);
        due("day 2", same.rule(2, 0), NONE);
        int[][] bare = {{10, 0}, {23, 60}, {33, 0}, {40, 0}, {41, 60}, {42, 0}, {43, 0}, {44, 0}, {193, 0}};
        for (int[] pair : bare) {
            due("rule " + pair[0], same.rule(2, pair[0]), pair[1]);
            due("rule " + pair[0] + " of a new object", new PuntYard().rule(99, pair[0]), pair[1]);
        }
        PuntYard zero = new PuntYard();
        law(zero, "rain 1;", 0);
        law(zero, "", 0);
        due("an empty text holds", zero.rule(0, 0), 1);
        due("its rain", zero.rule(0, 43), 0);
        PuntYard end = new PuntYard();
        law(end, "rain 1;", 99);
        due("day 98", end.rule(98, 0), NONE);
        due("day 99", end.rule(99, 0), 0);
        sentence = "law: n is below 0 or more than there are: -2, doing nothing";
        range("n", 0, 20, -2, (y, v) -> y.law(v, 0));
        refused("n on an empty tape", PuntYard::new, y -> y.law(1, 0), -2);
        due("n 0 on an empty tape", new PuntYard().law(0, 0), 0);
        sentence = "law: The first n bytes alone";
        PuntYard first = new PuntYard();
        feedText(first, "rain 5;rain 6;rain 7");
        due("two rules", first.law(14, 0), 0);
        due("rain", first.rule(0, 43), 6);
        due("the tape is empty then", first.count(8), 0);
        sentence = "law: the tape is empty then, with a FAULT, too";
        feedText(first, "rain 5;rain 6;rain 7");
        due("a FAULT", first.law(13, 0), NONE);
        due("its place", first.fault(), 13);
        due("the tape is empty then", first.count(8), 0);
        due("no LAW of it", first.count(0), 1);
    }

    private static void behindFaults() {
        sentence = "law: a FAULT is no LAW";
        PuntYard again = new PuntYard();
        due("a FAULT", law(again, "price 0 1 each 2;deposit 0 3;late 4 each 5 grace 6;rain 7;cushion 8;right 0 0 9;"
            + "busy 0 to 719 100;shut if day=1;harm 1;?", 0), NONE);
        due("no LAW", again.rule(0, 0), NONE);
        due("the next one", law(again, "price 1 100 each 1;shut if day=9;harm 30 if day=0;", 0), 0);
        int[][] left = {{10, 0}, {20, 60}, {30, 0}, {40, 0}, {41, 60}, {42, 0}, {43, 0}, {44, 0}, {100, 0}, {11, 100}};
        for (int[] pair : left) {
            due("rule " + pair[0], again.rule(0, pair[0]), pair[1]);
        }
        again.boat(1);
        due("open on day 1", again.free(0, 720), 1);
        due("shut on day 9", again.free(0, 9 * 720), 0);
        again.out(0, 0, 0, 1);
        again.swamp(0, 100);
        again.back(0, 1);
        due("no busy hours", again.bill(0, 3, 2), 100);
        due("harm", again.bill(0, 3, 5), 30);
        PuntYard often = under("", 0);
        for (int i = 0; i < 6; i++) {
            due("a FAULT behind much", law(often, "shut if day=1" + times(100, "or day=1") + "?", 0), NONE);
            due("its place", often.fault(), 13 + 800);
        }
        due("a LAW behind them", law(often, "shut if day=2" + times(109, "or day=3") + ";", 0), 1);
        due("its first word", often.free(0, 2 * 720), 0);
        due("its last word", often.free(0, 3 * 720), 0);
        due("none of theirs", often.free(0, 720), 1);
        sentence = "fault: of the latest law() that was a number or NONE";
        PuntYard first = new PuntYard();
        due("a FAULT", law(first, "rain 5;rain 6", 0), NONE);
        due("its place", first.fault(), 13);
        due("-2", first.law(1, 0), -2);
        due("as before", first.fault(), 13);
        due("-2", first.law(0, 100), -2);
        due("as before", first.fault(), 13);
        due("a number", first.law(0, 0), 0);
        due("it had none", first.fault(), NONE);
    }

    private static void river() {
        sentence = "WATER of a DAY 0 to 99 (50 at first)";
        range("water, v", 0, 99, 0, (x, v) -> bit(x.water(0, v)));
        PuntYard x = under("shut if not water=50;", 0);
        due("day 0", x.free(0, 0), 1);
        due("day 99", x.free(0, 71999), 1);
        x.water(99, 51);
        due("day 99", x.free(0, 99 * 720), 0);
        due("day 98", x.free(0, 99 * 720 - 1), 1);
        PuntYard ends = under("shut if water=0;shut if water>98;", 0);
        ends.water(1, 0);
        ends.water(2, 99);
        ends.water(3, 98);
        due("0", ends.free(0, 720), 0);
        due("99", ends.free(0, 1440), 0);
        due("98", ends.free(0, 3 * 720), 1);
    }

    private static void spells() {
        sentence = "SPELLS of rain, up to 40";
        PuntYard full = new PuntYard();
        for (int i = 1; i <= 40; i++) {
            due("spell", full.rain(i, i, i), i);
        }
        due("the 41st", full.rain(0, 0, 0), NONE);
        due("spells", full.count(4), 40);
        law(full, "shut if rain=1;", 0);
        full.boat(0);
        due("the 41st is none", full.free(0, 0), 1);
        due("the 40th", full.free(0, 40 * 720 + 40), 0);
        sentence = "SPELLS: of a DAY from a MINUTE to another one, both in";
        PuntYard y = under("shut if rain=1;", 0);
        y.rain(1, 10, 20);
        y.rain(2, 719, 719);
        y.rain(3, 0, 0);
        int[][] want = {{720 + 9, 1}, {720 + 10, 0}, {720 + 20, 0}, {720 + 21, 1}, {10, 1}, {1440 + 10, 1},
            {1440 + 718, 1}, {1440 + 719, 0}, {2160, 0}, {2161, 1}};
        for (int[] pair : want) {
            due("free at " + pair[0], y.free(0, pair[0]), pair[1]);
        }
        sentence = "rain 1 or 0 at that MINUTE";
        PuntYard z = under("shut if rain>1;shut if rain=0;", 0);
        z.rain(0, 5, 7);
        z.rain(0, 6, 8);
        due("dry", z.free(0, 4), 0);
        due("wet by two", z.free(0, 6), 1);
    }

    private static void weed() {
        sentence = "WEED: RATE (0 to 99, 0 at first)";
        range("weed, rate", 0, 99, 0, (w, v) -> bit(w.weed(v)));
        due("at first", new PuntYard().count(299), 0);
        sentence = "WEED: the DAYS since the last CUT of it up to that DAY (since DAY 0 without one), 999 at most";
        PuntYard w = new PuntYard();
        w.weed(9);
        int[][] weed = {{0, 0}, {1, 9}, {99, 891}};
        for (int[] pair : weed) {
            due("day " + pair[0], w.count(200 + pair[0]), pair[1]);
        }
        w.weed(10);
        due("day 99", w.count(299), 990);
        w.weed(11);
        int[][] dense = {{90, 990}, {91, 999}, {99, 999}};
        for (int[] pair : dense) {
            due("day " + pair[0], w.count(200 + pair[0]), pair[1]);
        }
        w.weed(37);
        due("27 days", w.count(227), 999);
        due("26 days", w.count(226), 962);
        due("cut", bit(w.cut(50)), 1);
        due("cut", bit(w.cut(20)), 1);
        due("cut", bit(w.cut(99)), 1);
        int[][] since = {{19, 703}, {20, 0}, {21, 37}, {46, 962}, {47, 999}, {49, 999}, {50, 0}, {51, 37}, {98, 999}, {99, 0}};
        for (int[] pair : since) {
            due("day " + pair[0], w.count(200 + pair[0]), pair[1]);
        }
        sentence = "cut: false: no DAY, it is already";
        due("again", bit(w.cut(50)), 0);
        due("day 0", bit(w.cut(0)), 1);
        due("day 0 again", bit(w.cut(0)), 0);
        refused("cut again", PuntYardEdges::rich, r -> bit(r.cut(10)), 0);
    }

    private static void tape() {
        sentence = "feed: there would be more than 900";
        PuntYard x = new PuntYard();
        for (int i = 1; i <= 45; i++) {
            due("feed", x.feed(0x20202020, 0x20202020, 0x20202020, 0x20202020, 0x20202020), 20 * i);
        }
        due("the 46th", x.feed(-1, -1, -1, -1, -1), NONE);
        due("bytes", x.count(8), 900);
        due("901 are not there", x.law(901, 0), -2);
        due("900 blanks", x.law(900, 0), 0);
        due("empty", x.count(8), 0);
        due("feed again", x.feed(0, 0, 0, 0, 0), 20);
        sentence = "feed: of each number the highest first";
        for (int place = 0; place < 20; place++) {
            int[] n = {0x20202020, 0x20202020, 0x20202020, 0x20202020, 0x20202020};
            n[place / 4] |= 0xff << 24 - 8 * (place % 4);
            PuntYard y = new PuntYard();
            y.feed(n[0], n[1], n[2], n[3], n[4]);
            due("law", y.law(20, 0), NONE);
            due("the odd byte", y.fault(), place);
        }
        sentence = "feed: bytes come behind those on the tape";
        PuntYard z = new PuntYard();
        feedText(z, times(19, " ") + "r");
        due("bytes", z.feed(0x61696e20, 0x39393b20, 0x20202020, 0x20202020, 0x20202020), 40);
        due("law over both", z.law(40, 0), 0);
        due("rain", z.rule(0, 43), 99);
        PuntYard full = new PuntYard();
        feedText(full, times(893, " ") + "rain 8;");
        due("the last byte is read", full.law(900, 0), 0);
        due("rain", full.rule(0, 43), 8);
        feedText(full, times(893, " ") + "rain 8;");
        due("one less", full.law(899, 0), NONE);
        due("more must come", full.fault(), 899);
    }

    // ---- BOATS and HIRES

    private static void hires() {
        sentence = "BOATS, up to 20";
        PuntYard x = new PuntYard();
        for (int i = 0; i < 20; i++) {
            due("boat", x.boat(3), i);
        }
        due("the 21st", x.boat(3), NONE);
        due("boats", x.count(1), 20);
        due("of a queue", x.queue(3, 20, 0, 0), 0);
        due("behind it", x.queue(3, 21, 0, 0), NONE);
        due("the last", x.free(19, 0), 1);
        due("out", x.out(19, 0, 0, 1), 0);
        due("bits", x.outs(0, 1), 1 << 19);
        sentence = "none such: a BOAT that there isn't";
        range("free, boat", 0, 3, NONE, (y, v) -> y.free(v, 300));
        range("out, boat", 0, 3, NONE, (y, v) -> y.out(v, 0, 300, 1));
        range("worn, boat", 0, 3, NONE, (y, v) -> y.worn(v, 5, 0));
        range("old, k", 0, 3, NONE, (y, v) -> y.old(v, 5));
        range("paint, boat", 0, 3, 0, (y, v) -> bit(y.paint(v, 1, 1)));
        range("fail, boat", 0, 3, 0, (y, v) -> bit(y.fail(v, 1, 1)));
        sentence = "none such: a HIRE that there isn't";
        range("swamp, hire", 0, 1, NONE, (y, v) -> y.swamp(v, 1));
        range("cushions, hire", 0, 1, NONE, (y, v) -> y.cushions(v, 1, 0));
        range("hire, hire", 0, 1, NONE, (y, v) -> y.hire(v, 0));
        range("known, hire", 0, 1, -2, (y, v) -> y.known(v, 5));
        range("bill, hire", 0, 0, NO_COIN, (y, v) -> y.bill(v, 5, 0));
        range("pass, hire", 0, 1, 0, (y, v) -> bit(y.pass(v, 1, true)));
        range("pole, hire", 0, 1, NONE, (y, v) -> y.pole(v));
        range("barred, hire", 0, 1, NONE, (y, v) -> y.barred(v, 5));
        range("back, hire", 1, 1, NONE, (y, v) -> y.back(v, 300));
        range("mend, hire", 0, 0, NONE, (y, v) -> y.mend(v, 300));
        sentence = "MINUTES it's booked for (1 to 720)";
        range("booked", 1, 720, NONE, (y, v) -> y.out(2, 0, 720, v));
        sentence = "its MINUTE and these 720 at most";
        range("booked at 719", 1, 1, NONE, (y, v) -> y.out(2, 0, 719, v));
        range("booked at 700", 1, 20, NONE, (y, v) -> y.out(2, 0, 1420, v));
        sentence = "back: a MOMENT of its DAY (not ahead of OUT)";
        range("back, moment", 110, 719, NONE, (y, v) -> y.back(1, v));
        range("mend, moment", 100, 719, NONE, (y, v) -> y.mend(0, v));
        PuntYard later = under("", 0);
        later.out(0, 0, 1440, 720);
        due("the day ahead", later.back(0, 1439), NONE);
        due("the day behind", later.back(0, 2160), NONE);
        due("the day's last", later.back(0, 2159), 2);
        due("the day's first", later.mend(0, 1440), 3);
        sentence = "back: NONE: it's back";
        refused("back again", PuntYardEdges::rich, y -> y.back(0, 190), NONE);
        refused("back at another moment", PuntYardEdges::rich, y -> y.back(0, 191), NONE);
        sentence = "mend: NONE: it isn't back";
        refused("mend", PuntYardEdges::rich, y -> y.mend(1, 150), NONE);
    }

    private static void mends() {
        sentence = "mend: not behind the next OUT of its BOAT";
        Maker again = () -> {
            PuntYard y = rich();
            y.out(0, 5, 200, 10);
            return y;
        };
        done("mend to the next OUT", again, y -> y.mend(0, 200), NONE);
        refused("mend behind it", again, y -> y.mend(0, 201), NONE);
        done("another BOAT's OUT is none", again, y -> y.back(1, 201) + y.mend(1, 719), NONE);
        PuntYard three = again.made();
        three.back(2, 210);
        three.out(0, 5, 300, 10);
        due("the next, not the last", three.mend(0, 201), NONE);
        due("the second by the third", three.mend(2, 300), 9);
        due("behind the third", three.mend(2, 301), NONE);
        due("the third isn't back", three.mend(3, 310), NONE);
        three.back(3, 310);
        due("the last by the day's end", three.mend(3, 719), 11);
        sentence = "swamp: HARM of a HIRE (0 to 9,999)";
        range("swamp, coin", 0, 9999, NONE, (y, v) -> y.swamp(0, v));
        sentence = "cushions: CUSHIONS (0 to 9 each)";
        range("cushions, taken", 0, 9, NONE, (y, v) -> y.cushions(0, v, 0));
        range("cushions, brought", 0, 9, NONE, (y, v) -> y.cushions(0, 0, v));
        sentence = "hire: NONE: none such";
        range("hire, what", 0, 6, NONE, (y, v) -> y.hire(0, v));
    }

    private static void tellings() {
        sentence = "A HIRE, up to 120";
        PuntYard x = under("", 0, 0);
        for (int i = 0; i < 120; i++) {
            due("out", x.out(0, i % 10, 10 * i, 1), i);
            due("back", x.back(i, 10 * i), 2 * i + 2);
        }
        due("the 121st", x.out(0, 0, 2000, 1), NONE);
        due("of another BOAT", x.out(1, 0, 2000, 1), NONE);
        due("it could go OUT", x.free(0, 2000), 1);
        due("hires", x.count(2), 120);
        due("tellings", x.count(3), 240);
        due("the last", x.hire(119, 2), 1190);
        due("none behind", x.hire(120, 2), NONE);
        due("another telling", x.mend(119, 1195), 241);
        due("the last in bills", x.bill(119, 241, 0), 5);
        due("takings", x.takings(1, 241), 0);
        due("minutes", x.worn(0, 241, 0), 5);
        due("hires", x.worn(0, 241, 1), 120);
        due("minutes of another", x.worn(1, 241, 0), 0);
        due("the oldest", x.old(0, 241), 0);
        due("how many differ", x.differ(0, 241, NONE), 120);
        due("the last that differs", x.differ(0, 241, 119), 119);
        due("none behind", x.differ(0, 241, 120), NONE);
        due("the last is OUT", x.outs(1194, 241), 1);
        due("cost", x.cost(9, 241), 0);
        due("worst", x.worst(1, 241, 1), 0);
        due("together", x.together(9, 8, 1, 241, 0), 0);
        due("pole", x.pole(119), 0);
        due("barred", x.barred(119, 241), 0);
        due("queue", x.queue(0, 2, 1194, 0), 0);
        due("hire 120", bit(x.pass(120, 1, true)), 0);
        due("hire 119", bit(x.pass(119, 1, true)), 1);
        due("hire 118", bit(x.pass(118, 3, true)), 1);
        due("the last one passes", x.pole(118), 2);
    }

    private static void fullTellings() {
        sentence = "TELLINGS, numbered from 1 on, 400 at most";
        PuntYard y = under("", 0, 0);
        due("out", y.out(0, 0, 5, 5), 0);
        for (int t = 2; t <= 399; t++) {
            due("swamp", y.swamp(0, t), t);
        }
        due("the 400th", y.back(0, 7), 400);
        due("back", y.out(1, 0, 0, 1), NONE);
        due("mend", y.mend(0, 8), NONE);
        due("swamp", y.swamp(0, 1), NONE);
        due("cushions", y.cushions(0, 1, 1), NONE);
        due("hires", y.count(2), 1);
        due("tellings", y.count(3), 400);
        due("known", y.known(0, 400), 7);
        due("known by 399", y.known(0, 399), NONE);
        due("harm", y.bill(0, 400, 5), 399);
        due("cushions told", y.differ(399, 400, NONE), 1);
        due("401", y.known(0, 401), -2);
        PuntYard late = under("", 0, 0);
        late.out(0, 0, 5, 5);
        for (int t = 2; t <= 400; t++) {
            late.cushions(0, 1, 1);
        }
        due("back", late.back(0, 7), NONE);
        due("it isn't back", late.known(0, 400), NONE);
        due("OUT still", late.outs(100, 400), 1);
        due("not free", late.free(0, 100), 0);
        PuntYard last = under("", 0, 0);
        last.out(0, 0, 5, 5);
        for (int t = 2; t <= 399; t++) {
            last.swamp(0, 1);
        }
        due("OUT as the 400th", last.out(1, 9, 71999, 1), 1);
        due("its telling", last.hire(1, 4), 400);
        due("known by it", last.known(1, 400), NONE);
        due("not told ahead of it", last.known(1, 399), -2);
    }

    private static void knownBy() {
        sentence = "Calls that tell of HIRES and do it are TELLINGS";
        PuntYard none = rich();
        none.out(0, 3, 100, 60);
        none.back(0, 195);
        none.mend(1, 150);
        none.swamp(0, 10000);
        none.cushions(0, 10, 0);
        none.pass(0, 1, true);
        none.boat(1);
        due("tellings", none.count(3), 5);
        due("the next one", none.swamp(1, 1), 6);
        sentence = "AS KNOWN by a TELLING (0: nothing)";
        range("known, telling", 1, 5, -2, (y2, v) -> y2.known(0, v));
        range("bill, telling", 3, 5, NO_COIN, (y2, v) -> y2.bill(0, v, 0));
        range("outs, telling", 0, 5, NONE, (y2, v) -> y2.outs(0, v));
        range("takings, telling", 0, 5, NO_COIN, (y2, v) -> y2.takings(0, v));
        range("differ, one", 0, 5, NONE, (y2, v) -> y2.differ(v, 0, NONE));
        range("differ, other", 0, 5, NONE, (y2, v) -> y2.differ(0, v, NONE));
        range("cost, telling", 0, 5, NONE, (y2, v) -> y2.cost(3, v));
        range("worst, telling", 0, 5, NONE, (y2, v) -> y2.worst(0, v, 0));
        range("together, telling", 0, 5, NONE, (y2, v) -> y2.together(3, 4, 0, v, 0));
        range("worn, telling", 0, 5, NONE, (y2, v) -> y2.worn(0, v, 0));
        range("old, telling", 0, 5, NONE, (y2, v) -> y2.old(0, v));
        range("barred, telling", 1, 5, NONE, (y2, v) -> y2.barred(0, v));
        PuntYard nothing = rich();
        due("outs", nothing.outs(120, 0), 0);
        due("takings", nothing.takings(0, 0), 0);
        due("cost", nothing.cost(3, 0), 0);
        due("together", nothing.together(3, 4, 0, 0, 0), 0);
        due("worn", nothing.worn(0, 0, 0), 0);
        due("worst", nothing.worst(0, 0, 1), 0);
        due("not told by then", nothing.known(1, 1), -2);
        due("told by then", nothing.known(1, 2), NONE);
        due("not told by then", nothing.barred(1, 1), NONE);
        due("told by then", nothing.barred(1, 2), 0x08);
        due("not told by then", nothing.bill(0, 0, 0), NO_COIN);
        due("not back by then", nothing.bill(0, 2, 0), NO_COIN);
        due("back by then", nothing.bill(0, 3, 0), 90);
    }

    private static void toldLater() {
        sentence = "AS KNOWN: HIRES told later are none, though more was asked before";
        PuntYard then = under("price 0 1 each 1;rain 100;right 2 0 20;", 0, 0, 0);
        hired(then, 0, 1, 100, 1, 130);
        hired(then, 1, 2, 110, 1, 150);
        int[] first = {0, 0, 30, 30, 30};
        int[] second = {0, 0, 0, 0, 20};
        int[] both = {0, 0, 0, 20, 20};
        int[] outs = {0, 1, 1, 3, 3};
        for (int t = 4; t >= 0; t--) {
            due("takings by 4", then.takings(0, 4), 50);
            due("takings by " + t, then.takings(0, t), first[t] + second[t]);
            due("worst by 4", then.worst(0, 4, 1), 50);
            due("worst by " + t, then.worst(0, t, 1), first[t] + second[t]);
            due("cost by 4", then.cost(2, 4), 20);
            due("cost by " + t, then.cost(2, t), second[t]);
            due("minutes by 4", then.worn(1, 4, 0), 40);
            due("minutes by " + t, then.worn(1, t, 0), 2 * second[t]);
            due("hires by 4", then.worn(1, 4, 1), 1);
            due("hires by " + t, then.worn(1, t, 1), second[t] / 20);
            due("together by 4", then.together(1, 2, 0, 4, 0), 20);
            due("together by " + t, then.together(1, 2, 0, t, 0), both[t]);
            due("outs by 4", then.outs(120, 4), 3);
            due("outs by " + t, then.outs(120, t), outs[t]);
        }
        hired(then, 2, 2, 50, 1, 60);
        for (int t = 4; t <= 6; t++) {
            due("FREE by 6", then.bill(1, 6, 1), 10);
            due("FREE by " + t, then.bill(1, t, 1), t == 6 ? 10 : 20);
        }
    }

    private static void toldLast() {
        sentence = "what was told last holds";
        PuntYard mended = rich();
        mended.mend(0, 150);
        mended.mend(0, 719);
        mended.swamp(0, 7);
        mended.swamp(0, 0);
        mended.cushions(0, 0, 0);
        int[] known = {-2, NONE, NONE, 190, 190, 190, 150, 719, 719, 719, 719};
        int[] harm = {0, 0, 0, 0, 50, 50, 50, 50, 7, 0, 0};
        int[] cushions = {0, 0, 0, 0, 0, 12, 12, 12, 12, 12, 0};
        for (int t = 0; t <= 10; t++) {
            due("known by " + t, mended.known(0, t), known[t]);
            due("harm by " + t, mended.bill(0, t, 5), t < 3 ? NO_COIN : harm[t]);
            due("cushions by " + t, mended.bill(0, t, 8), t < 3 ? NO_COIN : cushions[t]);
        }
    }

    private static void outAtMoments() {
        sentence = "A BOAT is OUT at a MOMENT, if it went OUT by then and isn't back by then (or not at all)";
        PuntYard x = under("", 0, 0);
        x.out(0, 0, 100, 10);
        x.out(1, 0, 100, 10);
        x.back(0, 120);
        int[][] want = {{99, 0}, {100, 3}, {119, 3}, {120, 2}, {719, 2}, {720, 2}, {71999, 2}};
        for (int[] pair : want) {
            due("outs at " + pair[0], x.outs(pair[0], 3), pair[1]);
        }
        x.mend(0, 100);
        due("never OUT", x.outs(100, 4), 2);
        due("before", x.outs(99, 4), 0);
        sentence = "It can go OUT at a MOMENT, if (as known now) all its HIRES are back by then";
        int[][] free = {{0, 0}, {99, 0}, {100, 1}, {101, 1}, {71999, 1}};
        for (int[] pair : free) {
            due("free at " + pair[0], x.free(0, pair[0]), pair[1]);
            due("not back", x.free(1, pair[0]), 0);
        }
        due("ahead of back", x.out(0, 0, 99, 1), NONE);
        due("at back", x.out(0, 0, 100, 1), 2);
        due("back", x.back(2, 130), 6);
        due("ahead of the second", x.free(0, 129), 0);
        due("by the second", x.free(0, 130), 1);
        sentence = "free (1, 0), at 120 HIRES and 400 TELLINGS too";
        PuntYard full = under("", 0);
        full.out(0, 0, 0, 1);
        full.back(0, 1);
        for (int t = 3; t <= 400; t++) {
            full.swamp(0, 1);
        }
        due("free", full.free(0, 1), 1);
        due("not free", full.free(0, 0), 0);
        due("out", full.out(0, 0, 1, 1), NONE);
    }

    private static void shut(String condition, PuntYard x, int boat, int moment, boolean want) {
        due("shut if " + condition + " at " + moment, x.free(boat, moment), want ? 0 : 1);
    }

    private static void shutAtMoments() {
        sentence = "SHUT (ASKED: WATER, rain, DAY, week, MINUTE, OUT, KIND, WEED)";
        String[] words = {"water", "rain", "day", "week", "minute", "out", "kind", "weed"};
        int[] value = {30, 1, 13, 6, 105, 1, 2, 91};
        for (int w = 0; w < words.length; w++) {
            for (int off = -1; off <= 1; off++) {
                int number = value[w] + off;
                String[] signs = {"<", "=", ">"};
                for (int s = 0; s < 3; s++) {
                    String condition = words[w] + signs[s] + number;
                    PuntYard x = under("shut if " + condition + ";", 0, 2);
                    x.weed(7);
                    x.water(13, 30);
                    x.rain(13, 105, 105);
                    x.water(0, 99);
                    boolean isOut = x.out(0, 0, 10, 1) == 0;
                    boolean want = s == 0 ? off > 0 : s == 1 ? off == 0 : off < 0;
                    if (isOut || !words[w].equals("out")) {
                        shut(condition, x, 1, 13 * 720 + 105, want);
                    }
                }
            }
        }
    }

    private static void shutByWords() {
        sentence = "NUMBER 999 is asked for";
        String[] dense = {"weed=999", "weed>998", "weed<999", "weed>999", "minute<999", "minute=999", "not weed<999"};
        boolean[] isSo = {true, true, false, false, true, false, true};
        for (int i = 0; i < dense.length; i++) {
            PuntYard x = under("shut if " + dense[i] + ";", 0);
            x.weed(99);
            shut(dense[i], x, 0, 71999, isSo[i]);
        }
        sentence = "week: DAY modulo 7";
        PuntYard week = under("shut if week=0;", 0);
        for (int day = 0; day < 100; day++) {
            shut("week=0", week, 0, 720 * day, day % 7 == 0);
        }
        sentence = "SHUT by the LAW of the DAY";
        PuntYard x = new PuntYard();
        law(x, "shut if day>0;", 1);
        law(x, "", 2);
        x.boat(0);
        shut("none", x, 0, 719, false);
        shut("day 1", x, 0, 720, true);
        shut("day 1", x, 0, 1439, true);
        shut("day 2", x, 0, 1440, false);
        refused("out", () -> {
            PuntYard y = rich();
            y.water(5, 39);
            return y;
        }, y -> y.out(2, 0, 5 * 720, 1), NONE);
        sentence = "how many BOATS are OUT then";
        PuntYard many = under("shut if out>18;", 0, 0, 0, 0, 0, 0, 0, 0, 0, 0, 0, 0, 0, 0, 0, 0, 0, 0, 0, 0);
        for (int b = 0; b < 19; b++) {
            due("out", many.out(b, 0, 100, 1), b);
        }
        shut("out>18", many, 19, 100, true);
        shut("out>18", many, 19, 99, false);
        many.back(7, 100);
        shut("out>18", many, 19, 100, false);
        sentence = "SHUT by what is asked as known now";
        PuntYard now = under("shut if out=1;", 0, 0);
        now.out(0, 0, 100, 1);
        shut("out=1", now, 1, 100, true);
        now.back(0, 150);
        shut("out=1", now, 1, 149, true);
        shut("out=1", now, 1, 150, false);
        now.mend(0, 140);
        shut("out=1", now, 1, 140, false);
        shut("out=1", now, 1, 139, true);
        sentence = "ANY: ALL {or ALL}; ALL: ONE {and ONE}; not ONE";
        String[] holds = {"day=1 or day=0 and day=1", "day=0 and day=1 or day=1", "not day=0 and day=1", "not day=0 or day=0",
            "not (day=0 or day=2)", "not (day=1 and day=2)", "not not (day=1)", "(day=1 or day=2) and (day=0 or day=1)"};
        String[] zero = {"day=1 or water<0", "water<0 or day=1", "not water<0", "not (day=0 or water<0)"};
        for (String condition : zero) {
            shut(condition, under("shut if " + condition + ";", 0), 0, 720, true);
        }
        String[] fails = {"(day=1 or day=0) and day=2", "day=0 and (day=1 or day=1)", "not day=1 and day=1", "not day=1 or day=0",
            "not (day=0 or day=1)", "not (day=1 and day=1)", "not not not day=1", "day=1 and day=1 and day=2"};
        for (String condition : holds) {
            shut(condition, under("shut if " + condition + ";", 0), 0, 720, true);
        }
        for (String condition : fails) {
            shut(condition, under("shut if " + condition + ";", 0), 0, 720, false);
        }
    }

    // ---- BILLS

    private static void dueBill(PuntYard x, int hire, int what, int want) {
        due("bill(" + hire + ", now, " + what + ")", x.bill(hire, x.count(3), what), want);
    }

    private static int hired(PuntYard x, int boat, int who, int moment, int booked, int back) {
        int hire = x.out(boat, who, moment, booked);
        x.back(hire, back);
        return hire;
    }

    private static void free() {
        sentence = "bill: 0 to 8; -1,000,000: none such, not back by then";
        range("bill, what", 0, 8, NO_COIN, (x, v) -> x.bill(0, 5, v));
        refused("not back", PuntYardEdges::rich, x -> x.bill(1, 5, 0), NO_COIN);
        sentence = "FREE: of what WHO's right of the KIND has left that DAY";
        int[][] ends = {{0, 0, 0}, {49, 49, 0}, {50, 50, 0}, {51, 50, 1}, {240, 50, 190}};
        for (int[] end : ends) {
            PuntYard x = under("price 0 1 each 1;right 1 0 50;", 0);
            hired(x, 0, 1, 100, 1, 100 + end[0]);
            dueBill(x, 0, 1, end[1]);
            dueBill(x, 0, 2, end[2]);
            due("cost", x.cost(1, 2), end[1]);
        }
        sentence = "FREE: each all it can";
        PuntYard x = under("price 0 1 each 1;price 1 1 each 1;right 1 0 50;right 1 1 5;", 0, 0, 0, 0, 1);
        hired(x, 0, 1, 100, 1, 130);
        hired(x, 1, 1, 101, 1, 120);
        hired(x, 2, 1, 102, 1, 112);
        hired(x, 3, 1, 103, 1, 105);
        dueBill(x, 0, 1, 30);
        dueBill(x, 1, 1, 19);
        dueBill(x, 2, 1, 1);
        dueBill(x, 3, 1, 0);
        sentence = "FREE: of WHO, of the KIND, of that DAY alone";
        int other = hired(x, 1, 2, 200, 1, 260);
        dueBill(x, other, 1, 0);
        int kind = hired(x, 4, 1, 10, 1, 100);
        dueBill(x, kind, 1, 5);
        dueBill(x, 0, 1, 30);
        dueBill(x, 1, 1, 19);
        int next = hired(x, 0, 1, 720, 1, 800);
        dueBill(x, next, 1, 50);
        dueBill(x, 3, 1, 0);
        sentence = "FREE: HIRES of them that are back";
        PuntYard y = under("price 0 1 each 1;right 1 0 50;", 0, 0);
        y.out(0, 1, 50, 1);
        hired(y, 1, 1, 100, 1, 160);
        dueBill(y, 1, 1, 50);
        y.back(0, 60);
        dueBill(y, 0, 1, 10);
        dueBill(y, 1, 1, 40);
        due("as known before", y.bill(1, 3, 1), 50);
        y.mend(0, 99);
        dueBill(y, 1, 1, 1);
        y.mend(0, 100);
        dueBill(y, 1, 1, 0);
        sentence = "FREE: by MOMENTS, of one by numbers";
        PuntYard z = under("price 0 1 each 1;right 1 0 50;", 0, 0, 0);
        hired(z, 0, 1, 200, 1, 240);
        hired(z, 1, 1, 199, 1, 209);
        hired(z, 2, 1, 200, 1, 205);
        dueBill(z, 1, 1, 10);
        dueBill(z, 0, 1, 40);
        dueBill(z, 2, 1, 0);
        z.mend(0, 238);
        dueBill(z, 2, 1, 2);
    }

    private static int priceOf(String text, int minute, int minutes) {
        PuntYard x = under(text, 0);
        hired(x, 0, 0, minute, 1, minute + minutes);
        return x.bill(0, 2, 2);
    }

    private static void prices() {
        sentence = "PRICE: for each \"each\" begun of minutes less FREE so much";
        int[][] begun = {{0, 0}, {1, 7}, {29, 7}, {30, 7}, {31, 14}, {60, 14}, {61, 21}, {719, 24 * 7}};
        for (int[] pair : begun) {
            due(pair[0] + " minutes", priceOf("price 0 7 each 30;", 0, pair[0]), pair[1]);
        }
        due("each 1", priceOf("price 0 999 each 1;", 0, 719), 999 * 719);
        due("each 240", priceOf("price 0 999 each 240;", 0, 240), 999);
        due("each 240", priceOf("price 0 999 each 240;", 0, 241), 2 * 999);
        due("without", priceOf("deposit 0 1;", 0, 719), 0);
        PuntYard x = under("price 0 7 each 30;right 0 0 20;", 0);
        hired(x, 0, 0, 0, 1, 50);
        dueBill(x, 0, 2, 7);
        x.mend(0, 51);
        dueBill(x, 0, 2, 14);
        x.mend(0, 20);
        dueBill(x, 0, 2, 0);
        x.mend(0, 21);
        dueBill(x, 0, 2, 7);
        sentence = "PRICE: all \"busy\" within which its MINUTE of going OUT lies";
        int[][] within = {{99, 100}, {100, 150}, {150, 150}, {199, 150}, {200, 100}};
        for (int[] pair : within) {
            due("out at " + pair[0], priceOf("price 0 100 each 240;busy 100 to 199 50;", pair[0], 100), pair[1]);
        }
        due("minute 0", priceOf("price 0 100 each 240;busy 0 to 0 1;", 0, 1), 101);
        due("minute 719", priceOf("price 0 100 each 240;busy 719 to 719 1;", 719, 0), 0);
        due("minute 718", priceOf("price 0 100 each 240;busy 718 to 718 1;", 718, 1), 101);
        due("two", priceOf("price 0 100 each 240;busy 5 to 9 10;busy 9 to 12 7;", 9, 1), 117);
        sentence = "PRICE: busy together, 900 at most";
        due("899", priceOf("price 0 100 each 240;" + times(8, "busy 5 to 5 100;") + "busy 5 to 5 99;", 5, 1), 999);
        due("900", priceOf("price 0 100 each 240;" + times(9, "busy 5 to 5 100;"), 5, 1), 1000);
        due("901", priceOf("price 0 100 each 240;" + times(9, "busy 5 to 5 100;") + "busy 0 to 9 1;", 5, 1), 1000);
        due("3900", priceOf("price 0 999 each 1;" + times(39, "busy 0 to 0 100;"), 0, 719), 999 * 719 * 10);
        sentence = "PRICE: busy in hundredths (cut)";
        due("99 of 1", priceOf("price 0 1 each 240;busy 5 to 5 99;", 5, 1), 1);
        due("100 of 1", priceOf("price 0 1 each 240;busy 5 to 5 100;", 5, 1), 2);
        due("33 of 3 and 34", priceOf("price 0 3 each 240;busy 5 to 5 33;busy 5 to 5 34;", 5, 1), 5);
        due("50 of 3", priceOf("price 0 3 each 240;busy 5 to 5 50;", 5, 1), 4);
    }

    private static int lateOf(String text, int booked, int minutes) {
        PuntYard x = under(text, 0);
        hired(x, 0, 0, 0, booked, minutes);
        return x.bill(0, 2, 3);
    }

    private static void lateness() {
        sentence = "LATE: if minutes are more than booked and \"grace\"";
        int[][] grace = {{0, 0}, {10, 0}, {11, 0}, {15, 0}, {16, 4}, {25, 4}, {26, 8}, {40, 8}, {41, 12}};
        for (int[] pair : grace) {
            due(pair[0] + " minutes", lateOf("late 4 each 15 grace 5;", 10, pair[0]), pair[1]);
        }
        due("grace 0, booked", lateOf("late 4 each 15 grace 0;", 10, 10), 0);
        due("grace 0, one more", lateOf("late 4 each 15 grace 0;", 10, 11), 4);
        due("grace 240", lateOf("late 4 each 1 grace 240;", 10, 250), 0);
        due("grace 240, one more", lateOf("late 4 each 1 grace 240;", 10, 251), 4 * 241);
        sentence = "LATE: for each \"each\" begun of those beyond booked so much";
        due("each 1", lateOf("late 999 each 1 grace 0;", 1, 719), 999 * 718);
        due("each 240", lateOf("late 999 each 240 grace 0;", 1, 241), 999);
        due("each 240, one more", lateOf("late 999 each 240 grace 0;", 1, 242), 2 * 999);
        due("without", lateOf("rain 1;", 1, 719), 0);
        due("a whole day", lateOf("late 999 each 1 grace 0;", 720, 719), 0);
    }

    private static int wetOf(String text, int from, int to, int out, int back) {
        PuntYard x = under(text, 0);
        hired(x, 0, 0, out, 1, back);
        x.rain(0, from, to);
        return x.bill(0, 2, 4);
    }

    private static void wet() {
        String text = "price 0 100 each 240;rain 100;";
        sentence = "WET: minutes at which it rained (from OUT on, ahead of back)";
        due("ahead of OUT", wetOf(text, 0, 99, 100, 200), 0);
        due("at OUT", wetOf(text, 0, 100, 100, 200), 1);
        due("the last", wetOf(text, 199, 719, 100, 200), 1);
        due("at back", wetOf(text, 200, 719, 100, 200), 0);
        due("all of it", wetOf(text, 100, 199, 100, 200), 100);
        due("all the day", wetOf(text, 0, 719, 0, 719), 300);
        due("all the day but the first", wetOf(text, 1, 719, 0, 719), 300 * 718 / 719);
        due("minute 718", wetOf(text, 718, 718, 718, 719), 100);
        sentence = "WET: (cut; 0 without minutes)";
        due("0 minutes", wetOf(text, 0, 719, 100, 100), 0);
        due("0 minutes at the day's end", wetOf(text, 0, 719, 719, 719), 0);
        due("99 of 1", wetOf("price 0 1 each 240;rain 99;", 0, 719, 0, 10), 0);
        due("100 of 1", wetOf("price 0 1 each 240;rain 100;", 0, 719, 0, 10), 1);
        due("9 of 10 minutes", wetOf("price 0 1 each 240;rain 100;", 0, 8, 0, 10), 0);
        due("1 of 3", wetOf("price 0 10 each 240;rain 100;", 0, 0, 0, 3), 3);
        due("rain 0", wetOf("price 0 999 each 1;rain 0;", 0, 719, 0, 719), 0);
        due("the most", wetOf("price 0 999 each 1;rain 100;" + times(9, "busy 0 to 0 100;"), 0, 719, 0, 719), 999 * 719 * 10);
        sentence = "WET: a minute that two SPELLS hold is one";
        PuntYard x = under(text, 0);
        hired(x, 0, 0, 100, 1, 200);
        x.rain(0, 100, 150);
        x.rain(0, 150, 159);
        x.rain(0, 120, 130);
        x.rain(1, 160, 199);
        dueBill(x, 0, 4, 60);
    }

    private static int harmOf(String text, int coin) {
        PuntYard x = under(text, 0);
        x.out(0, 0, 0, 1);
        x.swamp(0, coin);
        x.back(0, 1);
        return x.bill(0, 3, 5);
    }

    private static void harm() {
        sentence = "HARM: that PART of what swamp() told (0; cut)";
        due("0", harmOf("harm 100;", 0), 0);
        due("part 0", harmOf("harm 0;", 9999), 0);
        due("part 100", harmOf("harm 100;", 9999), 9999);
        due("part 1 of 99", harmOf("harm 1;", 99), 0);
        due("part 1 of 100", harmOf("harm 1;", 100), 1);
        due("part 99 of 1", harmOf("harm 99;", 1), 0);
        due("part 1 of 199", harmOf("harm 1;", 199), 1);
        due("no harm told", under("", 0).count(3), 0);
        PuntYard none = under("harm 100;", 0);
        hired(none, 0, 0, 0, 1, 1);
        dueBill(none, 0, 5, 0);
        sentence = "HARM (ASKED at the MOMENT it went OUT; OUT then AS KNOWN)";
        PuntYard x = under("harm 1 if rain=1;harm 2 if out=2;harm 3 if minute=10;", 0, 0);
        x.rain(0, 11, 719);
        x.rain(0, 0, 9);
        x.out(0, 0, 10, 1);
        x.swamp(0, 100);
        x.back(0, 700);
        dueBill(x, 0, 5, 3);
        x.out(1, 0, 10, 1);
        dueBill(x, 0, 5, 2);
        due("as known before", x.bill(0, 3, 5), 3);
        x.back(1, 11);
        dueBill(x, 0, 5, 2);
        x.mend(1, 10);
        dueBill(x, 0, 5, 3);
        x.rain(0, 10, 10);
        dueBill(x, 0, 5, 1);
        PuntYard later = under("harm 1 if out=2;harm 3;", 0, 0);
        later.out(0, 0, 10, 1);
        later.swamp(0, 100);
        later.back(0, 20);
        later.out(1, 0, 11, 1);
        dueBill(later, 0, 5, 3);
    }

    private static void cushions() {
        sentence = "CUSHIONS: \"cushion\" for each that was taken and not brought";
        int[][] told = {{0, 0, 0}, {1, 0, 999}, {1, 1, 0}, {9, 0, 9 * 999}, {9, 9, 0}, {9, 8, 999}, {0, 9, 0}, {4, 5, 0}};
        PuntYard x = under("cushion 999;", 0);
        hired(x, 0, 0, 0, 1, 1);
        dueBill(x, 0, 8, 0);
        for (int[] row : told) {
            x.cushions(0, row[0], row[1]);
            dueBill(x, 0, 8, row[2]);
            dueBill(x, 0, 6, row[2]);
        }
    }

    private static void deposits() {
        sentence = "BACK of the deposit: less what of LATE, HARM and CUSHIONS together is not above it";
        int[][] harm = {{0, 999}, {1, 998}, {998, 1}, {999, 0}, {1000, 0}, {9999, 0}};
        for (int[] pair : harm) {
            PuntYard x = under("deposit 0 999;", 0);
            x.out(0, 0, 0, 1);
            x.swamp(0, pair[0]);
            x.back(0, 1);
            dueBill(x, 0, 7, pair[1]);
            dueBill(x, 0, 6, pair[0]);
        }
        PuntYard x = under("deposit 0 10;late 3 each 10 grace 0;cushion 3;price 0 500 each 1;rain 100;", 0);
        x.out(0, 0, 0, 1);
        x.back(0, 2);
        dueBill(x, 0, 7, 7);
        x.cushions(0, 1, 0);
        dueBill(x, 0, 7, 4);
        x.swamp(0, 3);
        dueBill(x, 0, 7, 1);
        x.swamp(0, 4);
        dueBill(x, 0, 7, 0);
        x.swamp(0, 5);
        dueBill(x, 0, 7, 0);
        dueBill(x, 0, 6, 1000 + 3 + 3 + 5);
        x.rain(0, 0, 719);
        dueBill(x, 0, 6, 11);
        PuntYard none = under("deposit 1 10;", 0);
        hired(none, 0, 0, 0, 1, 5);
        dueBill(none, 0, 7, 0);
    }

    private static void sums() {
        sentence = "TAKINGS of a DAY: OWED of all its HIRES that are back";
        PuntYard x = under("price 0 1 each 1;", 0, 0, 0);
        hired(x, 0, 0, 719, 1, 719);
        hired(x, 0, 0, 720, 720, 1439);
        hired(x, 1, 0, 0, 1, 719);
        x.out(1, 0, 721, 1);
        hired(x, 2, 0, 71999 - 9, 1, 71999);
        due("day 0", x.takings(0, 9), 719);
        due("day 1", x.takings(1, 9), 719);
        due("day 2", x.takings(2, 9), 0);
        due("day 99", x.takings(99, 9), 9);
        due("day 99 by 8", x.takings(99, 8), 0);
        x.back(3, 721 + 100);
        due("day 1", x.takings(1, 10), 819);
        PuntYard rainy = under("price 0 100 each 240;rain 100;cushion 3;late 5 each 1 grace 0;deposit 0 99;", 0);
        hired(rainy, 0, 0, 720, 9, 730);
        rainy.rain(1, 0, 4);
        due("less WET", rainy.takings(1, 2), 100 + 5 - 50);
        due("dry on another day", rainy.takings(0, 2), 0);
        rainy.cushions(0, 1, 0);
        rainy.swamp(0, 7);
        due("with HARM and CUSHIONS", rainy.takings(1, 4), 65);
        due("by 3", rainy.takings(1, 3), 58);
        sentence = "COST: what PRICES would be more without FREE";
        PuntYard y = under("price 0 10 each 30;busy 100 to 100 15;right 1 0 20;right 2 0 240;", 0, 0, 0);
        due("none", y.cost(1, 0), 0);
        hired(y, 0, 1, 100, 1, 130);
        due("saves none", y.cost(1, 2), 0);
        y.mend(0, 150);
        due("saves one", y.cost(1, 3), 23 - 11);
        y.mend(0, 120);
        due("all is FREE", y.cost(1, 4), 11);
        y.mend(0, 100);
        due("no minutes", y.cost(1, 5), 0);
        y.out(1, 2, 300, 1);
        due("not back", y.cost(2, 6), 0);
        y.back(1, 700);
        due("240 of 400", y.cost(2, 7), 140 - 60);
        due("by 6", y.cost(2, 6), 0);
        due("others", y.cost(0, 7), 0);
    }

    private static void dueWorst(PuntYard x, int minute, int wet) {
        due("worst minute", x.worst(0, x.count(3), 0), minute);
        due("wet of all then", x.worst(0, x.count(3), 1), wet);
    }

    private static void worst() {
        String text = "price 0 600 each 240;rain 100;";
        sentence = "WORST: of several the first";
        PuntYard x = under(text, 0, 0);
        dueWorst(x, 0, 0);
        hired(x, 0, 0, 0, 1, 60);
        dueWorst(x, 0, 600);
        x.mend(0, 59);
        dueWorst(x, 0, 600);
        x.mend(0, 61);
        dueWorst(x, 0, 590);
        x.mend(0, 0);
        dueWorst(x, 0, 0);
        PuntYard second = under(text, 0);
        hired(second, 0, 0, 0, 1, 61);
        second.rain(0, 0, 0);
        dueWorst(second, 1, 600);
        sentence = "WORST: the MINUTE 0 to 660";
        hired(x, 1, 0, 600, 1, 719);
        dueWorst(x, 600, 302);
        x.rain(0, 600, 658);
        dueWorst(x, 659, 600);
        PuntYard end = under(text, 0);
        hired(end, 0, 0, 718, 1, 719);
        dueWorst(end, 659, 600);
        end.mend(0, 718);
        dueWorst(end, 0, 0);
        sentence = "WORST: 60 minutes of rain more (those that are wet count once)";
        PuntYard wet = under(text, 0);
        hired(wet, 0, 0, 100, 1, 220);
        dueWorst(wet, 100, 300);
        wet.rain(0, 100, 100);
        dueWorst(wet, 101, 305);
        wet.rain(0, 160, 160);
        dueWorst(wet, 100, 305);
        wet.rain(0, 159, 162);
        dueWorst(wet, 99, 315);
        wet.rain(0, 0, 719);
        dueWorst(wet, 0, 600);
        sentence = "WORST: WET of all its HIRES that are back";
        PuntYard two = under("price 0 600 each 240;price 1 60 each 240;rain 100;", 0, 1, 0);
        hired(two, 0, 0, 100, 1, 160);
        hired(two, 1, 0, 100, 1, 161);
        dueWorst(two, 100, 659);
        two.out(2, 0, 500, 1);
        dueWorst(two, 100, 659);
        two.rain(0, 100, 160);
        dueWorst(two, 0, 660);
        two.back(2, 560);
        dueWorst(two, 500, 1260);
        two.mend(1, 102);
        two.mend(0, 100);
        two.mend(2, 500);
        dueWorst(two, 0, 60);
        sentence = "WORST: cut of each HIRE's WET";
        PuntYard cut = under("price 0 1 each 240;price 1 2 each 240;rain 50;", 0, 0, 1);
        hired(cut, 0, 0, 100, 1, 160);
        hired(cut, 1, 0, 100, 1, 160);
        dueWorst(cut, 0, 0);
        hired(cut, 2, 0, 300, 1, 360);
        dueWorst(cut, 300, 1);
        PuntYard dry = under("price 0 999 each 1;", 0);
        hired(dry, 0, 0, 100, 1, 160);
        dueWorst(dry, 0, 0);
        sentence = "worst: NONE: none such";
        range("worst, what", 0, 1, NONE, (y, v) -> y.worst(0, 5, v));
    }

    private static void together() {
        sentence = "TOGETHER: MINUTES at which each has a BOAT OUT";
        PuntYard x = under("", 0, 0, 0, 0);
        hired(x, 0, 1, 100, 1, 200);
        x.out(1, 2, 200, 1);
        due("none", x.together(1, 2, 0, 3, 0), 0);
        due("none is first", x.together(1, 2, 0, 3, 1), NONE);
        x.mend(0, 201);
        due("one", x.together(1, 2, 0, 4, 0), 1);
        due("it is first", x.together(2, 1, 0, 4, 1), 200);
        x.back(1, 200);
        due("never OUT", x.together(1, 2, 0, 5, 0), 0);
        x.mend(1, 719);
        x.mend(0, 719);
        due("till the last", x.together(1, 2, 0, 7, 0), 519);
        x.out(2, 1, 720, 1);
        x.out(3, 2, 721, 1);
        due("the next day", x.together(1, 2, 1, 9, 0), 719);
        due("its first", x.together(1, 2, 1, 9, 1), 1);
        due("the day before", x.together(1, 2, 0, 9, 0), 519);
        due("days later", x.together(1, 2, 99, 9, 0), 720);
        due("its first", x.together(1, 2, 99, 9, 1), 0);
        due("a minute at the day's end", x.together(1, 2, 0, 9, 1), 200);
        x.back(3, 722);
        due("one minute", x.together(1, 2, 1, 10, 0), 1);
        due("none on day 2", x.together(1, 2, 2, 10, 1), NONE);
        PuntYard third = under("", 0, 0, 0, 0);
        hired(third, 0, 1, 100, 1, 120);
        hired(third, 1, 2, 110, 1, 130);
        hired(third, 2, 3, 115, 1, 200);
        due("1 and 2", third.together(1, 2, 0, 6, 0), 10);
        due("1 and 3", third.together(1, 3, 0, 6, 0), 5);
        due("3 and 2", third.together(3, 2, 0, 6, 0), 15);
        due("3 and 4", third.together(3, 4, 0, 6, 0), 0);
        hired(third, 3, 1, 112, 1, 140);
        due("two BOATS of one", third.together(1, 2, 0, 8, 0), 20);
        due("first", third.together(1, 2, 0, 8, 1), 110);
        sentence = "together: NONE: none such (WHO unlike)";
        for (int who = 0; who < 10; who++) {
            due("alike", x.together(who, who, 0, 9, 0), NONE);
        }
        range("together, what", 0, 1, NONE, (y, v) -> y.together(3, 4, 0, 5, v));
    }

    private static void wornAndOld() {
        sentence = "WORN: minutes of a BOAT's HIRES that are back";
        PuntYard x = under("", 0, 0, 0);
        hired(x, 0, 0, 0, 1, 719);
        hired(x, 0, 0, 720, 1, 720);
        x.out(0, 0, 721, 1);
        due("minutes", x.worn(0, 5, 0), 719);
        due("hires", x.worn(0, 5, 1), 2);
        due("minutes by 1", x.worn(0, 1, 0), 0);
        due("hires by 2", x.worn(0, 2, 1), 1);
        due("hires by 4", x.worn(0, 4, 1), 2);
        due("none", x.worn(1, 5, 0), 0);
        due("none", x.worn(1, 5, 1), 0);
        range("worn, what", 0, 1, NONE, (y, v) -> y.worn(0, 5, v));
        sentence = "OLD: the most first, of several the least number";
        due("first", x.old(0, 5), 0);
        due("second", x.old(1, 5), 1);
        due("third", x.old(2, 5), 2);
        hired(x, 2, 0, 0, 1, 719);
        due("as much", x.old(0, 7), 0);
        due("as much", x.old(1, 7), 2);
        x.mend(0, 718);
        due("less", x.old(0, 8), 2);
        due("less", x.old(1, 8), 0);
        due("least", x.old(2, 8), 1);
        due("by 7", x.old(0, 7), 0);
        due("none behind", x.old(3, 8), NONE);
        due("no BOATS", new PuntYard().old(0, 0), NONE);
    }

    private static void differ() {
        sentence = "differ: (k NONE), the k-th; NONE: none such";
        PuntYard x = rich();
        due("k NONE", x.differ(0, 5, NONE), 2);
        due("k 0", x.differ(0, 5, 0), 0);
        due("k 1", x.differ(0, 5, 1), 1);
        due("k 2", x.differ(0, 5, 2), NONE);
        due("k -2", x.differ(0, 5, -2), NONE);
        due("k least", x.differ(0, 5, LEAST), NONE);
        due("k most", x.differ(0, 5, MOST), NONE);
        due("nothing and nothing", x.differ(0, 0, NONE), 0);
        due("none of none", x.differ(0, 0, 0), NONE);
        sentence = "differ: when they're back, what swamp() or cushions() told, or at all";
        PuntYard y = under("", 0, 0);
        y.out(0, 0, 10, 5);
        y.out(1, 0, 10, 5);
        y.back(0, 20);
        y.mend(0, 10);
        y.mend(0, 20);
        y.swamp(1, 1);
        y.swamp(1, 0);
        y.cushions(1, 1, 0);
        y.cushions(1, 0, 1);
        y.cushions(1, 0, 0);
        int[][] want = {{1, 2, 1}, {2, 3, 0}, {3, 4, 0}, {3, 5, NONE}, {4, 5, 0}, {5, 6, 1}, {6, 7, 1}, {5, 7, NONE},
            {7, 8, 1}, {8, 9, 1}, {9, 10, 1}, {7, 10, NONE}, {3, 10, NONE}, {10, 9, 1}, {2, 0, 0}};
        for (int[] row : want) {
            due(row[0] + " and " + row[1], y.differ(row[0], row[1], 0), row[2]);
        }
    }

    private static void queues() {
        sentence = "EARLY and LATE (0 to 240 each, 0 at first)";
        range("doubt, early", 0, 240, 0, (x, v) -> bit(x.doubt(v, 0)));
        range("doubt, late", 0, 240, 0, (x, v) -> bit(x.doubt(0, v)));
        PuntYard x = under("", 0, 0, 1);
        x.out(0, 0, 400, 300);
        due("least at first", x.queue(0, 2, 450, 0), 250);
        due("most at first", x.queue(0, 2, 450, 1), 250);
        x.doubt(240, 240);
        due("least", x.queue(0, 2, 450, 0), 10);
        due("most", x.queue(0, 2, 450, 1), 490);
        sentence = "WAIT: neither ahead of the MOMENT";
        due("come just then", x.queue(0, 2, 460, 0), 0);
        due("a minute more", x.queue(0, 2, 459, 0), 1);
        due("no less than nothing", x.queue(0, 2, 600, 0), 0);
        due("late", x.queue(0, 2, 939, 1), 1);
        due("late till then", x.queue(0, 2, 940, 1), 0);
        due("no less than nothing", x.queue(0, 2, 71999, 1), 0);
        sentence = "WAIT: BOATS of it that aren't OUT are there at once, one for each";
        due("ahead of OUT", x.queue(0, 2, 399, 1), 0);
        due("at OUT", x.queue(0, 2, 400, 1), 540);
        due("the first", x.queue(0, 1, 400, 1), 0);
        x.back(0, 500);
        due("OUT till it's back", x.queue(0, 2, 499, 1), 441);
        due("back", x.queue(0, 2, 500, 1), 0);
        sentence = "queue: NONE: none such, there aren't so many BOATS";
        range("queue, k", 1, 3, NONE, (y, v) -> y.queue(0, v, 110, 0));
        range("queue, what", 0, 1, NONE, (y, v) -> y.queue(0, 1, 110, v));
        range("queue, kind", 0, 1, NONE, (y, v) -> y.queue(v, 1, 110, 0));
        due("no BOATS", new PuntYard().queue(0, 1, 0, 0), NONE);
        sentence = "WAIT: all being served in turn";
        PuntYard many = under("", 2, 2, 2);
        int[] booked = {50, 20, 30};
        for (int b = 0; b < 3; b++) {
            many.out(b, 0, 100, booked[b]);
        }
        due("first", many.queue(2, 1, 100, 0), 20);
        due("second", many.queue(2, 2, 100, 0), 30);
        due("third", many.queue(2, 3, 100, 0), 50);
    }

    // ---- CHANCES, ROLLER, GUIDES

    private static PuntYard always(int parties) {
        PuntYard x = new PuntYard();
        for (int hour = 0; hour < 12; hour++) {
            x.chance(hour, parties, 10);
        }
        return x;
    }

    private static void chances() {
        sentence = "CHANCES: for each hour 0 to 11 parts of 10 for 0 to 5 parties";
        range("chance, hour", 0, 11, 0, (x, v) -> bit(x.chance(v, 1, 1)));
        range("chance, n", 0, 5, 0, (x, v) -> bit(x.chance(3, v, 1)));
        range("chance, parts", 0, 10, 0, (x, v) -> bit(x.chance(3, 1, v)));
        sentence = "WHOLE if they're 10 together for each hour";
        PuntYard x = new PuntYard();
        due("new", x.count(9), 0);
        for (int hour = 0; hour < 12; hour++) {
            due("not yet", x.count(9), 0);
            x.chance(hour, hour % 6, 10);
        }
        due("whole", x.count(9), 1);
        for (int hour = 0; hour < 12; hour++) {
            x.chance(hour, hour % 6, 9);
            due("nine", x.count(9), 0);
            due("keep", x.keep(1, 1, 0), NONE);
            due("keep", x.keep(1, 1, 3), NONE);
            due("least", x.least(1, 0), NONE);
            due("protect", x.protect(1, 1, 1, 0), NONE);
            x.chance(hour, (hour + 1) % 6, 1);
            due("ten", x.count(9), 1);
            x.chance(hour, (hour + 2) % 6, 1);
            due("eleven", x.count(9), 0);
            x.chance(hour, (hour + 2) % 6, 0);
        }
        PuntYard mixed = always(1);
        mixed.chance(0, 1, 9);
        mixed.chance(1, 2, 1);
        due("nine and eleven", mixed.count(9), 0);
    }

    private static void keep() {
        sentence = "KEEP of k boats (0 to 12) and n hours (1 to 3)";
        range("keep, k", 0, 12, NONE, (x, v) -> x.keep(v, 1, 0));
        range("keep, n", 1, 3, NONE, (x, v) -> x.keep(1, v, 0));
        range("keep, what", 0, 3, NONE, (x, v) -> x.keep(1, 1, v));
        PuntYard five = always(5);
        long[][] served = {{0, 1, 0}, {5, 1, 60}, {4, 1, 48}, {12, 1, 60}, {5, 2, 30}, {9, 2, 54}, {10, 2, 60}, {5, 3, 20},
            {12, 3, 48}, {1, 1, 12}, {1, 2, 6}, {1, 3, 4}};
        for (long[] row : served) {
            due(row[0] + " boats, " + row[1] + " hours", five.keep((int) row[0], (int) row[1], 0), row[2]);
            due("of", five.keep((int) row[0], (int) row[1], 1), 1);
        }
        due("wanted of 13 boats", five.keep(13, 1, 2), NONE);
        due("wanted of -1 boats", five.keep(-1, 1, 3), NONE);
        due("wanted for 0 hours", five.keep(1, 0, 2), NONE);
        due("wanted for 4 hours", five.keep(1, 4, 3), NONE);
        sentence = "KEEP: it's there again in the n-th hour behind";
        PuntYard few = always(0);
        few.chance(3, 0, 0);
        few.chance(3, 1, 10);
        int[] served2 = {2, 1, 1};
        int[] served3 = {2, 2, 1};
        int[] served4 = {2, 2, 2};
        for (int n = 1; n <= 3; n++) {
            due("then", few.keep(1, n, 0), 1);
        }
        few.chance(4, 0, 0);
        few.chance(4, 1, 10);
        for (int n = 1; n <= 3; n++) {
            due("an hour behind", few.keep(1, n, 0), served2[n - 1]);
        }
        few.chance(4, 0, 10);
        few.chance(4, 1, 0);
        few.chance(5, 0, 0);
        few.chance(5, 1, 10);
        for (int n = 1; n <= 3; n++) {
            due("two hours behind", few.keep(1, n, 0), served3[n - 1]);
        }
        few.chance(5, 0, 10);
        few.chance(5, 1, 0);
        few.chance(6, 0, 0);
        few.chance(6, 1, 10);
        for (int n = 1; n <= 3; n++) {
            due("three hours behind", few.keep(1, n, 0), served4[n - 1]);
        }
        sentence = "keep: in lowest terms";
        PuntYard x = always(0);
        x.chance(11, 0, 5);
        x.chance(11, 5, 5);
        due("5 halves", x.keep(12, 3, 0), 5);
        due("of 2", x.keep(12, 3, 1), 2);
        due("wanted", x.keep(0, 1, 2), 5);
        due("of 2", x.keep(0, 1, 3), 2);
        x.chance(11, 0, 9);
        x.chance(11, 5, 0);
        x.chance(11, 1, 1);
        due("1 tenth", x.keep(1, 1, 0), 1);
        due("of 10", x.keep(1, 1, 1), 10);
        due("wanted", x.keep(0, 1, 2), 1);
        due("of 10", x.keep(0, 1, 3), 10);
        PuntYard none = always(0);
        due("nothing", none.keep(12, 3, 0), 0);
        due("of 1", none.keep(12, 3, 1), 1);
        due("nothing wanted", none.keep(12, 3, 2), 0);
        due("of 1", none.keep(12, 3, 3), 1);
        PuntYard fine = new PuntYard();
        for (int hour = 0; hour < 12; hour++) {
            fine.chance(hour, 0, 7);
            fine.chance(hour, 1, 3);
        }
        due("a dozen digits", fine.keep(1, 2, 1), 1000000000000L);
    }

    private static void leastBoats() {
        sentence = "least: The least k by which at least a PART (0 to 100, in hundredths) of WANTED is served";
        PuntYard five = always(5);
        PuntYard none = always(0);
        range("least, n", 1, 3, NONE, (y, v) -> y.least(v, 50));
        range("least, part", 0, 100, NONE, (y, v) -> y.least(1, v));
        int[][] least = {{1, 0, 0}, {1, 1, 1}, {1, 20, 1}, {1, 21, 2}, {1, 40, 2}, {1, 100, 5}, {2, 90, 9}, {2, 91, 10},
            {2, 100, 10}, {3, 80, 12}, {3, 81, NONE}, {3, 100, NONE}, {3, 34, 6}, {3, 33, 5}};
        for (int[] row : least) {
            due("least(" + row[0] + ", " + row[1] + ")", five.least(row[0], row[1]), row[2]);
        }
        due("nothing wanted", none.least(3, 100), 0);
        due("nothing wanted, part 101", none.least(3, 101), NONE);
        PuntYard nearly = always(4);
        nearly.chance(0, 4, 9);
        nearly.chance(0, 5, 1);
        due("99 of what is wanted", nearly.least(1, 99), 4);
        due("nearly all isn't all", nearly.least(1, 100), 5);
    }

    private static void protect() {
        sentence = "KEPT BACK of k boats (0 to 12; coins 0 to 999)";
        range("protect, k", 0, 12, NONE, (x, v) -> x.protect(v, 1, 1, 1));
        range("protect, one", 0, 999, NONE, (x, v) -> x.protect(1, v, 1, 1));
        range("protect, other", 0, 999, NONE, (x, v) -> x.protect(1, 1, v, 1));
        range("protect, what", 0, 1, NONE, (x, v) -> x.protect(1, 1, 1, v));
        sentence = "KEPT BACK: the least y with the most coin in the mean";
        PuntYard five = always(5);
        int[][] rows = {{0, 5, 9, 0, 0}, {1, 5, 9, 1, 900}, {1, 5, 5, 0, 500}, {1, 9, 5, 0, 900}, {5, 0, 0, 0, 0},
            {5, 0, 1, 5, 500}, {7, 1, 999, 5, 100 * (2 + 5 * 999)}, {10, 1, 999, 0, 100 * (5 + 5 * 999)},
            {9, 1, 2, 5, 100 * (4 + 10)}, {12, 999, 999, 0, 999000}, {9, 3, 2, 0, 100 * (15 + 8)}};
        for (int[] row : rows) {
            due("y of " + row[0], five.protect(row[0], row[1], row[2], 0), row[3]);
            due("coin of " + row[0], five.protect(row[0], row[1], row[2], 1), row[4]);
        }
        PuntYard none = always(0);
        due("none come", none.protect(12, 999, 999, 0), 0);
        due("no coin", none.protect(12, 999, 999, 1), 0);
        sentence = "KEPT BACK: hour 0's CHANCES, then those of hour 1's";
        none.chance(2, 0, 0);
        none.chance(2, 5, 10);
        due("hour 2 is none of them", none.protect(12, 999, 999, 1), 0);
        none.chance(0, 0, 9);
        none.chance(0, 5, 1);
        none.chance(1, 0, 0);
        none.chance(1, 1, 10);
        due("one is kept", none.protect(5, 10, 11, 0), 1);
        due("coin", none.protect(5, 10, 11, 1), 100 * 11 + 10 * 4 * 10);
        due("one tenth of them", none.protect(5, 110, 11, 0), 0);
        due("coin", none.protect(5, 110, 11, 1), 10 * 5 * 110 + 90 * 11);
        none.chance(1, 1, 4);
        none.chance(1, 0, 6);
        due("none of hour 1 at times", none.protect(5, 110, 11, 1), 10 * 5 * 110 + 90 * 11 * 4 / 10);
    }

    private static void dueOrder(PuntYard x, int sum, int... order) {
        due("sum", x.rolled(0), sum);
        for (int i = 0; i < order.length; i++) {
            due("turn " + i, x.rolled(10 + i), order[i]);
        }
        due("none behind", x.rolled(10 + order.length), NONE);
    }

    private static void roller() {
        sentence = "ROLLER: each comes at a MINUTE and takes some (1 to 99)";
        range("roll, takes", 1, 99, NONE, (x, v) -> x.roll(0, v));
        sentence = "ROLLER: boats, up to 7";
        PuntYard x = new PuntYard();
        dueOrder(x, 0);
        for (int i = 0; i < 7; i++) {
            due("boat", x.roll(719, 99), i + 1);
        }
        due("the 8th", x.roll(0, 1), NONE);
        due("at the roller", x.count(5), 7);
        dueOrder(x, 99 * 21, 0, 1, 2, 3, 4, 5, 6);
        sentence = "ROLLER: none ahead of its coming";
        PuntYard y = new PuntYard();
        y.roll(719, 1);
        y.roll(0, 99);
        dueOrder(y, 0, 1, 0);
        PuntYard even = new PuntYard();
        even.roll(0, 10);
        even.roll(10, 1);
        dueOrder(even, 0, 0, 1);
        PuntYard close = new PuntYard();
        close.roll(0, 11);
        close.roll(10, 1);
        dueOrder(close, 1, 0, 1);
        sentence = "ROLLER: of several orders the least (by the first that differs)";
        PuntYard tie = new PuntYard();
        tie.roll(5, 3);
        tie.roll(5, 3);
        tie.roll(5, 3);
        dueOrder(tie, 9, 0, 1, 2);
        PuntYard wait = new PuntYard();
        wait.roll(1, 2);
        wait.roll(0, 3);
        dueOrder(wait, 2, 1, 0);
        PuntYard same = new PuntYard();
        same.roll(2, 4);
        same.roll(0, 4);
        dueOrder(same, 2, 1, 0);
        PuntYard choice = new PuntYard();
        choice.roll(1, 1);
        choice.roll(0, 3);
        dueOrder(choice, 2, 0, 1);
        sentence = "rolled: NONE: none such";
        for (int what = -5; what < 30; what++) {
            boolean isSuch = what == 0 || what >= 10 && what < 13;
            due("rolled(" + what + ")", bit(tie.rolled(what) != NONE), bit(isSuch));
        }
        due("least", tie.rolled(LEAST), NONE);
        due("most", tie.rolled(MOST), NONE);
    }

    private static void guides() {
        sentence = "SONGS (bits 0 to 7)";
        range("guide, songs", 0, 255, NONE, (x, v) -> x.guide(v));
        range("party, songs", 0, 255, NONE, (x, v) -> x.party(v, 1));
        sentence = "A PARTY (coin 0 to 999)";
        range("party, coin", 0, 999, NONE, (x, v) -> x.party(1, v));
        sentence = "GUIDES, up to 8; PARTIES, up to 8";
        PuntYard x = new PuntYard();
        for (int i = 0; i < 8; i++) {
            due("guide", x.guide(1 << i), i);
            due("party", x.party(1 << 7 - i, 999), i);
        }
        due("the 9th guide", x.guide(255), NONE);
        due("the 9th party", x.party(0, 0), NONE);
        due("guides", x.count(6), 8);
        due("parties", x.count(7), 8);
        due("all are guided", x.guided(0), 8);
        due("coin", x.guided(1), 8 * 999);
        for (int i = 0; i < 8; i++) {
            due("guide of party " + i, x.guided(10 + i), 7 - i);
        }
        due("none such", x.guided(18), NONE);
        sentence = "each guide with at most one whose SONGS are all among its own";
        PuntYard songs = new PuntYard();
        songs.guide(0);
        songs.guide(0x7f);
        songs.party(0x80, 9);
        due("one that lacks", songs.guided(0), 0);
        due("none", songs.guided(10), NONE);
        due("no coin", songs.guided(1), 0);
        songs.party(0, 0);
        due("no SONGS wanted", songs.guided(0), 1);
        due("the least", songs.guided(11), 0);
        songs.party(0x7f, 0);
        due("all SONGS", songs.guided(12), 1);
        songs.party(0x01, 0);
        due("at most one", songs.guided(0), 2);
        due("none behind all", songs.guided(13), NONE);
        sentence = "as many PARTIES as can be, of such the most coin";
        PuntYard most = new PuntYard();
        most.guide(1);
        most.guide(3);
        most.party(2, 999);
        most.party(1, 0);
        most.party(3, 999);
        due("two", most.guided(0), 2);
        due("coin", most.guided(1), 999);
        due("the first", most.guided(10), 1);
        due("the second", most.guided(11), 0);
        due("the third", most.guided(12), NONE);
        PuntYard many = new PuntYard();
        many.guide(1);
        many.guide(2);
        many.party(1, 0);
        many.party(2, 0);
        due("as many, of no coin", many.guided(0), 2);
        due("no coin", many.guided(1), 0);
    }

    private static void guideOfSeveral() {
        sentence = "the guide who has EARNED least (of several the least number; none behind all)";
        PuntYard least = new PuntYard();
        least.guide(1);
        least.guide(1);
        least.guide(1);
        least.party(1, 10);
        due("of several the least", least.guided(10), 0);
        least.pay(100);
        least.party(1, 9);
        due("who has none", least.guided(10), 1);
        least.pay(100);
        least.party(1, 11);
        least.pay(100);
        least.party(1, 1);
        due("who has least", least.guided(10), 1);
        least.pay(100);
        least.party(1, 1);
        due("of two alike the first", least.guided(10), 0);
        PuntYard coins = new PuntYard();
        coins.guide(1);
        coins.guide(1);
        coins.party(1, 30);
        coins.party(1, 20);
        due("the dear one", coins.guided(10), 0);
        due("the other", coins.guided(11), 1);
        due("coin", coins.guided(1), 50);
        sentence = "guided: NONE: none, none such";
        for (int what = -5; what < 30; what++) {
            due("guided(" + what + ")", bit(least.guided(what) != NONE), bit(what == 0 || what == 1 || what == 10));
        }
        PuntYard empty = new PuntYard();
        due("no PARTIES", empty.guided(0), 0);
        due("no coin", empty.guided(1), 0);
        due("none such", empty.guided(10), NONE);
        pay();
    }

    private static void pay() {
        sentence = "PAID by a PART (0 to 100)";
        range("pay, part", 0, 100, NONE, (x, v) -> x.pay(v));
        sentence = "PAID: a PART of its coin in hundredths (cut); PARTIES are gone";
        int[][] parts = {{0, 999, 0}, {1, 99, 0}, {1, 100, 1}, {99, 1, 0}, {100, 1, 1}, {100, 999, 999}, {50, 3, 1}};
        for (int[] row : parts) {
            PuntYard x = new PuntYard();
            x.guide(1);
            x.party(1, row[1]);
            due("paid", x.pay(row[0]), 1);
            due("part " + row[0] + " of " + row[1], x.earned(0), row[2]);
            due("gone", x.count(7), 0);
            due("gone", x.guided(10), NONE);
            due("none are paid", x.pay(100), 0);
            due("as before", x.earned(0), row[2]);
        }
        PuntYard alone = new PuntYard();
        due("none", alone.pay(100), 0);
        alone.party(1, 5);
        due("without guides", alone.pay(100), 0);
        due("PARTIES that none guides are gone, too", alone.count(7), 0);
        due("number of the next", alone.party(1, 5), 0);
        sentence = "earned: of NONE the most less the least of all (0 without). NONE: none such";
        due("without", new PuntYard().earned(NONE), 0);
        PuntYard x = new PuntYard();
        x.guide(1);
        x.party(1, 50);
        x.pay(100);
        due("of one", x.earned(NONE), 0);
        x.guide(0);
        due("a new one has none", x.earned(1), 0);
        due("of two", x.earned(NONE), 50);
        x.guide(2);
        x.party(2, 70);
        x.pay(100);
        due("of three", x.earned(NONE), 70);
        due("none such", x.earned(3), NONE);
        due("none such", x.earned(-2), NONE);
        due("none such", x.earned(LEAST), NONE);
        due("none such", x.earned(MOST), NONE);
        due("none such", new PuntYard().earned(0), NONE);
    }

    // ---- POLE, PAINT, TOUTS, SWANS, IMAGES

    private static void poles() {
        sentence = "REACHES (bits 0 to 15; none at first)";
        range("pass, reaches", 0, 65535, 0, (x, v) -> bit(x.pass(0, v, true)));
        PuntYard x = under("", 0, 0, 0);
        x.out(0, 0, 100, 1);
        x.out(1, 0, 101, 1);
        x.out(2, 0, 100, 1);
        due("none", x.hire(0, 5), 0);
        due("not CLEAN", x.hire(0, 6), 0);
        due("nowhere", x.pole(0), 0);
        x.pass(0, 65535, false);
        due("all", x.hire(0, 5), 65535);
        due("all", x.pole(0), 65535);
        sentence = "that no CLEAN one PASSES of those that went OUT at a later MOMENT";
        x.pass(2, 0x00ff, true);
        due("at the same MOMENT", x.pole(0), 65535);
        x.pass(1, 0x8001, false);
        due("not CLEAN", x.pole(0), 65535);
        x.pass(1, 0x8001, true);
        due("a minute later", x.pole(0), 0x7ffe);
        due("by the last one's own", x.pole(1), 0x8001);
        due("an earlier one", x.pole(2), 0x00fe);
        x.pass(1, 0, true);
        due("it PASSES none", x.pole(0), 65535);
        x.pass(0, 0xffff, true);
        due("its own being CLEAN is none", x.pole(0), 65535);
        PuntYard turned = under("", 0, 0);
        turned.out(0, 0, 500, 1);
        turned.out(1, 0, 100, 1);
        turned.pass(0, 0x000f, true);
        turned.pass(1, 0x00ff, false);
        due("told first, OUT later", turned.pole(1), 0x00f0);
        due("told later, OUT first", turned.pole(0), 0x000f);
        x.pass(0, 0, true);
        due("it PASSES none any more", x.pole(0), 0);
        due("CLEAN", x.hire(0, 6), 1);
    }

    private static void paint() {
        sentence = "BOATS lie dry 1 to 9 weeks (weeks 0: none, as at first) and lose coin (0 to 99)";
        range("paint, weeks", 0, 9, 0, (x, v) -> bit(x.paint(1, v, 5)));
        range("paint, coin", 0, 99, 0, (x, v) -> bit(x.paint(1, 5, v)));
        sentence = "paint: false: 10 have some";
        PuntYard x = new PuntYard();
        for (int b = 0; b < 12; b++) {
            x.boat(0);
        }
        for (int b = 0; b < 10; b++) {
            due("paint", bit(x.paint(b, 1, 1)), 1);
        }
        due("coin of ten", x.painted(1, 0), 55);
        due("the 11th", bit(x.paint(10, 1, 1)), 0);
        due("the 11th, free", bit(x.paint(11, 9, 0)), 0);
        due("coin of ten still", x.painted(1, 0), 55);
        due("one of the ten", bit(x.paint(9, 2, 0)), 1);
        due("one less", bit(x.paint(9, 0, 0)), 1);
        due("room again", bit(x.paint(11, 1, 1)), 1);
        due("and no more", bit(x.paint(10, 1, 1)), 0);
        due("coin of ten", x.painted(1, 0), 55);
        due("two berths", x.painted(2, 0), 30);
        due("the least set", x.painted(2, 1), 0x001f);
        sentence = "painted: on so many berths (1, 2). NONE: none such";
        range("painted, berths", 1, 2, NONE, (y, v) -> y.painted(v, 0));
        range("painted, what", 0, 1, NONE, (y, v) -> y.painted(2, v));
        due("none lie dry", new PuntYard().painted(2, 0), 0);
        due("no set", new PuntYard().painted(2, 1), 0);
        due("one berth", new PuntYard().painted(1, 0), 0);
        sentence = "PAINT: the least coin; of several the least set on the second berth (bits by BOATS)";
        PuntYard y = under("", 0, 0, 0, 0);
        y.paint(3, 9, 99);
        due("one boat", y.painted(1, 0), 891);
        due("one boat", y.painted(2, 0), 891);
        due("stays on the first", y.painted(2, 1), 0);
        y.paint(1, 9, 99);
        due("one berth", y.painted(1, 0), 891 * 3);
        due("one each", y.painted(2, 0), 891 * 2);
        due("the least set", y.painted(2, 1), 2);
        due("none on one berth", y.painted(1, 1), 0);
        y.paint(0, 9, 0);
        due("no coin lost", y.painted(2, 0), 891 * 2);
        due("the least set still", y.painted(2, 1), 2);
        y.paint(2, 1, 99);
        due("the short one first", y.painted(1, 0), 99 + 990 + 99 * 19);
        sentence = "PAINT: till they're done, one behind the other";
        PuntYard z = under("", 0, 0);
        z.paint(0, 2, 10);
        z.paint(1, 3, 14);
        due("by coin for a week of work", z.painted(1, 0), 20 + 5 * 14);
        z.paint(1, 3, 16);
        due("the other way", z.painted(1, 0), 48 + 50);
        z.paint(1, 3, 15);
        due("alike", z.painted(1, 0), 95);
    }

    private static void renew() {
        sentence = "fail: A BOAT's chance to fail (0 to 100) and what that costs (0 to 999)";
        range("fail, part", 0, 100, 0, (x, v) -> bit(x.fail(0, v, 1)));
        range("fail, coin", 0, 999, 0, (x, v) -> bit(x.fail(0, 1, v)));
        sentence = "renew: SAVED by so many weeks (0 to 90)";
        range("renew, weeks", 0, 90, NONE, (x, v) -> x.renew(v, 0));
        range("renew, what", 0, 1, NONE, (x, v) -> x.renew(5, v));
        PuntYard x = new PuntYard();
        for (int b = 0; b < 11; b++) {
            x.boat(0);
            x.fail(b, 100, 999);
            x.paint(b, 9, 1);
        }
        due("all ten", x.renew(90, 0), 999000);
        due("all ten", x.renew(90, 1), 0x03ff);
        due("nine", x.renew(89, 0), 899100);
        due("the least nine", x.renew(89, 1), 0x01ff);
        due("one", x.renew(9, 1), 1);
        due("none", x.renew(8, 0), 0);
        due("none", x.renew(8, 1), 0);
        due("no week", x.renew(0, 1), 0);
        sentence = "SAVED: sets with so many weeks together at most";
        PuntYard y = under("", 0, 0, 0);
        y.paint(0, 3, 0);
        y.paint(1, 4, 0);
        y.paint(2, 7, 0);
        y.fail(0, 10, 10);
        y.fail(1, 10, 10);
        y.fail(2, 10, 20);
        int[][] rows = {{2, 0, 0}, {3, 100, 1}, {4, 100, 1}, {6, 100, 1}, {7, 200, 3}, {9, 200, 3}, {10, 300, 5}, {11, 300, 5},
            {13, 300, 5}, {14, 400, 7}};
        for (int[] row : rows) {
            due(row[0] + " weeks", y.renew(row[0], 0), row[1]);
            due(row[0] + " weeks, the set", y.renew(row[0], 1), row[2]);
        }
        sentence = "SAVED: of those that lie dry; of several the least bits";
        y.fail(1, 0, 999);
        y.fail(2, 100, 0);
        due("what saves nothing isn't in it", y.renew(90, 1), 1);
        y.paint(0, 0, 0);
        due("it doesn't lie dry", y.renew(90, 0), 0);
        due("none", y.renew(90, 1), 0);
        due("new", new PuntYard().renew(90, 0), 0);
    }

    private static void touts() {
        sentence = "A LOYAL party (coin 0 to 999): up to 12";
        range("loyal, coin", 0, 999, NONE, (x, v) -> x.loyal(v));
        PuntYard full = new PuntYard();
        for (int i = 1; i <= 12; i++) {
            due("loyal", full.loyal(999), i);
        }
        due("the 13th", full.loyal(0), NONE);
        due("loyal parties", full.count(10), 12);
        due("income", full.tout(0, 0, 1), 999 * 12);
        sentence = "tout: the rival's price (0 to 999) and a fine (0 to 9,999)";
        range("tout, rival", 0, 999, NO_COIN, (x, v) -> x.tout(v, 0, 0));
        range("tout, fine", 0, 9999, NO_COIN, (x, v) -> x.tout(0, v, 0));
        range("tout, what", 0, 3, NO_COIN, (x, v) -> x.tout(0, 0, v));
        sentence = "stays, if the price (0 to 999) isn't above the rival's by more than its coin";
        PuntYard one = new PuntYard();
        one.loyal(10);
        int[][] prices = {{0, 10}, {100, 110}, {989, 999}, {990, 999}, {999, 999}};
        for (int[] pair : prices) {
            due("price by " + pair[0], one.tout(pair[0], 0, 0), pair[1]);
            due("income by " + pair[0], one.tout(pair[0], 0, 1), pair[1]);
            due("none go", one.tout(pair[0], 50, 2), 0);
            due("no gain", one.tout(pair[0], 50, 3), 0);
        }
        sentence = "the least price with the most income";
        PuntYard none = new PuntYard();
        due("none", none.tout(999, 9999, 0), 0);
        due("none", none.tout(999, 9999, 1), 0);
        due("none", none.tout(999, 9999, 2), 0);
        due("none", none.tout(999, 9999, 3), 0);
        PuntYard poor = new PuntYard();
        poor.loyal(0);
        due("no income at all", poor.tout(0, 0, 0), 0);
        due("no income at all", poor.tout(0, 0, 1), 0);
        due("none go", poor.tout(0, 0, 2), 0);
        poor.loyal(1);
        due("a price of one", poor.tout(0, 0, 0), 1);
        due("an income of one", poor.tout(0, 0, 1), 1);
        PuntYard two = new PuntYard();
        two.loyal(0);
        two.loyal(50);
        due("as much by two as by one", two.tout(50, 0, 0), 50);
        due("income", two.tout(50, 0, 1), 100);
        due("more by one", two.tout(49, 0, 0), 99);
        due("income", two.tout(49, 0, 1), 99);
        sentence = "the rival's price for each that goes, less the fine, if any does";
        due("one goes", two.tout(49, 9, 2), 1);
        due("gain", two.tout(49, 9, 3), 40);
        due("a loss", two.tout(49, 9999, 3), 49 - 9999);
        due("nothing", two.tout(49, 49, 3), 0);
        due("no fine", two.tout(49, 0, 3), 49);
        due("none goes", two.tout(50, 9999, 3), 0);
        two.loyal(0);
        due("two go", two.tout(20, 9, 2), 2);
        due("gain of two", two.tout(20, 9, 3), 31);
    }

    private static void swans() {
        sentence = "nest: REACHES 0 to 15";
        range("nest, reach", 0, 15, NONE, (x, v) -> x.nest(v, 0, 0));
        sentence = "regatta: REACHES as bits";
        range("regatta, reaches", 0, 65535, NONE, (x, v) -> x.regatta(0, 0, 0, v));
        sentence = "SWANS (20 at most)";
        PuntYard x = under("", 0);
        x.out(0, 0, 0, 1);
        x.pass(0, 65535, false);
        for (int i = 1; i <= 20; i++) {
            due("nest", x.nest(i == 20 ? 15 : 1, 0, 99), i);
        }
        due("the 21st", x.nest(7, 0, 99), NONE);
        due("nests", x.count(11), 20);
        due("the 20th bars, the 21st doesn't", x.barred(0, 1), 0x8002);
        x.regatta(0, 0, 0, 0x0104);
        x.regatta(0, 0, 5, 0x0104);
        due("two regattas in one", x.barred(0, 1), 0x8106);
        PuntYard twin = under("", 0);
        twin.nest(4, 0, 0);
        twin.nest(4, 0, 9);
        twin.out(0, 0, 0, 1);
        twin.pass(0, 65535, false);
        due("two nests in one", twin.barred(0, 1), 0x0010);
    }

    private static void regattas() {
        sentence = "REGATTAS (10 at most)";
        PuntYard y = under("", 0);
        y.out(0, 0, 0, 1);
        y.pass(0, 65535, false);
        for (int i = 1; i <= 10; i++) {
            due("regatta", y.regatta(0, 0, 0, 1 << i), i);
        }
        due("the 11th", y.regatta(0, 0, 0, 1 << 15), NONE);
        due("regattas", y.count(12), 10);
        due("ten bar, the 11th doesn't", y.barred(0, 1), 0x07fe);
        sentence = "SWANS from a DAY to another one, both in";
        int[][] days = {{4, 0}, {5, 1}, {6, 1}, {7, 1}, {8, 0}};
        for (int[] pair : days) {
            PuntYard z = under("", 0);
            z.nest(0, 5, 7);
            z.out(0, 0, pair[0] * 720 + 719, 1);
            z.pass(0, 1, false);
            due("day " + pair[0], z.barred(0, 1), pair[1]);
            z.back(0, pair[0] * 720 + 719);
            due("never OUT, on its DAY all the same", z.barred(0, 2), pair[1]);
        }
        sentence = "REGATTAS hold REACHES on a DAY from a MINUTE to another one, both in";
        int[][] spans = {{100, 150, 0}, {100, 200, 0}, {100, 201, 1}, {209, 210, 1}, {200, 219, 1}, {219, 240, 1},
            {220, 240, 0}, {220, 719, 0}, {100, 719, 1}, {205, 206, 1}};
        for (int[] row : spans) {
            PuntYard z = under("", 0);
            z.regatta(1, 200, 219, 1);
            z.out(0, 0, 720 + row[0], 1);
            z.pass(0, 3, false);
            z.back(0, 720 + row[1]);
            due("OUT from " + row[0] + " to " + row[1], z.barred(0, 2), row[2]);
        }
        sentence = "BARRED: at some MINUTE at which it's OUT (till the DAY's end, if it isn't back)";
        PuntYard z = under("", 0, 0);
        z.regatta(1, 719, 719, 1);
        z.regatta(1, 0, 0, 2);
        z.regatta(2, 0, 719, 4);
        z.regatta(0, 0, 719, 8);
        z.out(0, 0, 720, 1);
        z.out(1, 0, 721, 1);
        z.pass(0, 255, false);
        z.pass(1, 255, false);
        due("from the first to the last", z.barred(0, 2), 3);
        due("from the second to the last", z.barred(1, 2), 1);
        z.back(0, 1439);
        due("back by the last", z.barred(0, 3), 2);
        z.mend(0, 720);
        due("never OUT", z.barred(0, 4), 0);
        z.pass(1, 0, false);
        due("it PASSES none", z.barred(1, 4), 0);
    }

    private static void images() {
        sentence = "IMAGES, up to 3";
        PuntYard x = new PuntYard();
        for (int i = 0; i < 3; i++) {
            due("image", x.image(), i);
            x.boat(i);
        }
        due("the 4th", x.image(), NONE);
        due("images", x.count(13), 3);
        for (int i = 2; i >= 0; i--) {
            due("restore", bit(x.restore(i)), 1);
            due("boats", x.count(1), i);
            due("images", x.count(13), 3);
        }
        due("restore", bit(x.restore(2)), 1);
        due("boats", x.count(1), 2);
        sentence = "restore: false: none such";
        range("restore", 0, 0, 0, (y, v) -> bit(y.restore(v)));
        due("none at first", bit(new PuntYard().restore(0)), 0);
        sentence = "IMAGES: all";
        Maker imaged = () -> {
            PuntYard y = rich();
            y.image();
            return y;
        };
        PuntYard first = imaged.made();
        changeAll(first);
        due("restore", bit(first.restore(1)), 1);
        due("all is as it was", bit(all(first).equals(all(imaged.made()))), 1);
        PuntYard changed = imaged.made();
        changeAll(changed);
        due("it was changed", bit(all(changed).equals(all(imaged.made()))), 0);
        sentence = "IMAGES: all but LAWS, the tape and the FAULT";
        PuntYard kept = imaged.made();
        due("a law", kept.law(7, 50), 1);
        feedText(kept, "rain 8;");
        due("a fault", kept.law(3, 0), NONE);
        feedText(kept, "rain 9;");
        due("restore", bit(kept.restore(1)), 1);
        due("laws", kept.count(0), 2);
        due("day 50", kept.rule(50, 43), 7);
        due("fault", kept.fault(), 0);
        due("tape", kept.count(8), 20);
        due("its bytes", kept.law(7, 60), 2);
        due("its rain", kept.rule(60, 43), 9);
        sentence = "IMAGES: what is told behind changes none";
        PuntYard twice = imaged.made();
        twice.restore(1);
        changeAll(twice);
        twice.restore(1);
        due("all is as it was", bit(all(twice).equals(all(imaged.made()))), 1);
    }

    private static void restoredOver() {
        sentence = "IMAGES: All is as in an IMAGE, whatever stood in its place";
        PuntYard over = new PuntYard();
        over.image();
        PuntYard plain = new PuntYard();
        plain.image();
        fillRich(over);
        over.image();
        fillRich(plain);
        plain.image();
        due("restore", bit(over.restore(0)), 1);
        fillOther(over);
        due("restore", bit(over.restore(1)), 1);
        for (int day = 4; day < 7; day++) {
            due("out", over.out(2, 0, 720 * day + 30, 1), plain.out(2, 0, 720 * day + 30, 1));
            due("back", over.back(day - 2, 720 * day + 40), plain.back(day - 2, 720 * day + 40));
            over.pass(day - 2, 65535, false);
            plain.pass(day - 2, 65535, false);
            due("swans", over.barred(day - 2, over.count(3)), day == 6 ? 4 : 8);
        }
        due("all is as it was", bit(all(over).equals(all(plain))), 1);
        PuntYard other = new PuntYard();
        other.image();
        fillRich(other);
        other.image();
        other.restore(0);
        fillOther(other);
        due("the other one was another", bit(all(other).equals(all(plain))), 0);
        sentence = "IMAGES: a HIRE, a guide told again begins anew";
        PuntYard fresh = new PuntYard();
        fresh.image();
        fresh.boat(0);
        fresh.out(0, 1, 5, 5);
        fresh.pass(0, 9, true);
        fresh.guide(1);
        fresh.party(1, 9);
        fresh.pay(100);
        fresh.restore(0);
        due("guide", fresh.guide(1), 0);
        due("EARNED", fresh.earned(0), 0);
        due("boat", fresh.boat(0), 0);
        due("hire", fresh.out(0, 2, 6, 5), 0);
        due("REACHES", fresh.hire(0, 5), 0);
        due("CLEAN", fresh.hire(0, 6), 0);
        due("back", fresh.known(0, 1), NONE);
        sentence = "IMAGES: a full yard";
        PuntYard full = under("", 0);
        for (int h = 0; h < 120; h++) {
            full.out(0, h % 10, h, 1);
            full.back(h, h);
        }
        full.image();
        full.mend(119, 200);
        full.restore(0);
        due("hires", full.count(2), 120);
        due("tellings", full.count(3), 240);
        due("the last one's moment", full.hire(119, 2), 119);
        due("the last one's WHO", full.hire(119, 1), 9);
        due("the last one's telling", full.hire(119, 4), 239);
        due("the last one is back", full.known(119, 240), 119);
    }

    private static void changeAll(PuntYard x) {
        x.water(0, 61);
        x.water(99, 61);
        x.rain(0, 140, 170);
        x.boat(2);
        x.out(2, 6, 720, 10);
        x.back(1, 300);
        x.mend(0, 180);
        x.swamp(0, 60);
        x.swamp(1, 60);
        x.cushions(0, 6, 1);
        x.weed(4);
        x.cut(5);
        x.doubt(20, 30);
        x.chance(0, 0, 2);
        x.chance(0, 1, 4);
        x.roll(1, 1);
        x.guide(2);
        x.pay(100);
        x.party(1, 5);
        x.pass(0, 0xf0f0, true);
        x.pass(1, 0xffff, true);
        x.paint(0, 4, 31);
        x.paint(3, 1, 1);
        x.fail(2, 1, 1);
        x.loyal(900);
        x.nest(6, 0, 9);
        x.regatta(0, 0, 719, 0xffff);
    }

    private static void counts() {
        sentence = "count: 200 + d WEED of DAY d. NONE for others";
        PuntYard x = new PuntYard();
        for (int what = -300; what < 700; what++) {
            boolean isSuch = what >= 0 && what <= 13 || what >= 200 && what <= 299;
            due("count(" + what + ")", x.count(what), isSuch ? 0 : NONE);
        }
        due("least", x.count(LEAST), NONE);
        due("most", x.count(MOST), NONE);
        sentence = "what is asked changes no other answer";
        PuntYard asked = rich();
        List<Long> once = new ArrayList<>();
        askHires(asked, once);
        askYard(asked, once);
        askSearches(asked, once);
        List<Long> searches = new ArrayList<>();
        List<Long> days = new ArrayList<>();
        askSearches(asked, searches);
        asked.worst(0, asked.count(3), 0);
        List<Long> behindWorst = new ArrayList<>();
        askSearches(asked, behindWorst);
        askYard(asked, days);
        due("searches", bit(searches.equals(once.subList(once.size() - searches.size(), once.size()))), 1);
        due("searches behind others", bit(behindWorst.equals(searches)), 1);
        int ahead = once.size() - searches.size();
        due("the yard", bit(days.equals(once.subList(ahead - days.size(), ahead))), 1);
        PuntYard pair = under("", 0);
        pair.out(0, 1, 258, 1);
        pair.guide(1);
        pair.guide(1);
        pair.party(1, 1);
        due("none together", pair.together(1, 2, 0, 1, 0), 0);
        due("guide", pair.guided(10), 0);
        PuntYard mixed = rich();
        mixed.pay(0);
        for (int p = 0; p < 3; p++) {
            mixed.party(1, 10 * p);
            due("guided", mixed.guided(0), Math.min(p + 1, 2));
            mixed.old(0, 5);
            due("guided behind old", mixed.guided(0), Math.min(p + 1, 2));
            mixed.worst(0, 5, 0);
            due("guided behind worst", mixed.guided(1), p == 0 ? 0 : p == 1 ? 10 : 30);
            mixed.together(3, 4, 0, 5, 0);
            due("guided behind together", mixed.guided(1), p == 0 ? 0 : p == 1 ? 10 : 30);
        }
    }

    private static void newObject() {
        sentence = "A new object: No LAWS, BOATS, HIRES";
        PuntYard y = new PuntYard();
        due("fault", y.fault(), NONE);
        due("boat 0", y.free(0, 0), NONE);
        due("boat 0", y.out(0, 0, 0, 1), NONE);
        due("hire 0", y.hire(0, 0), NONE);
        due("hire 0", y.back(0, 0), NONE);
        due("hire 0", y.mend(0, 0), NONE);
        due("hire 0", y.swamp(0, 0), NONE);
        due("hire 0", y.cushions(0, 0, 0), NONE);
        due("hire 0", y.known(0, 0), -2);
        due("hire 0", y.bill(0, 0, 0), NO_COIN);
        due("hire 0", y.barred(0, 0), NONE);
        due("hire 0", y.pole(0), NONE);
        due("hire 0", bit(y.pass(0, 0, false)), 0);
        due("boat 0", y.worn(0, 0, 0), NONE);
        due("boat 0", bit(y.paint(0, 1, 1)), 0);
        due("boat 0", bit(y.fail(0, 1, 1)), 0);
        due("takings", y.takings(99, 0), 0);
        due("outs", y.outs(71999, 0), 0);
        due("cost", y.cost(9, 0), 0);
        due("worst", y.worst(0, 0, 0), 0);
        due("together", y.together(0, 9, 0, 0, 0), 0);
        due("together", y.together(0, 9, 0, 0, 1), NONE);
        due("differ", y.differ(0, 0, NONE), 0);
        due("telling 1", y.outs(0, 1), NONE);
        due("telling 1", y.takings(0, 1), NO_COIN);
    }

    // ---- no call throws, whatever its arguments

    private static PuntYard full() {
        PuntYard x = new PuntYard();
        for (int i = 0; i < 5; i++) {
            law(x, "price 3 999 each 1;late 999 each 1 grace 0;rain 100;right 9 3 240;harm 99 if not(out>0);"
                + times(9, "busy 0 to 719 100;") + "shut if weed>998;", i);
        }
        feedText(x, times(880, "("));
        for (int b = 0; b < 20; b++) {
            x.boat(3);
            x.fail(b, 100, 999);
            x.paint(b, 9, 99);
        }
        for (int h = 0; h < 120; h++) {
            x.out(h % 20, h % 10, 2160 + h, 1);
            x.back(h, 2160 + h + 20);
        }
        x.mend(119, 2879);
        for (int t = 242; t <= 400; t++) {
            x.swamp(t % 120, 9999);
        }
        for (int i = 0; i < 40; i++) {
            x.rain(i % 4, 0, 719);
            x.nest(i % 16, 0, 99);
            x.regatta(i % 4, 0, 719, 65535);
            x.roll(i, 99);
            x.guide(255);
            x.party(255, 999);
            x.loyal(999);
        }
        for (int hour = 0; hour < 12; hour++) {
            x.chance(hour, 5, 10);
        }
        x.image();
        x.image();
        x.image();
        return x;
    }

    private static void anyArguments() throws Exception {
        sentence = "any arguments are answered";
        int[] odd = {0, -1, 1, MOST, LEAST, 99, 719, 71999, 3, 9, 255};
        int[] limits = {5, 20, 120, 400, 40, 7, 8, 8, 880, 1, 12, 20, 10, 3};
        PuntYard full = full();
        for (int what = 0; what < limits.length; what++) {
            due("a full yard has of " + what, full.count(what), limits[what]);
        }
        Maker[] makers = {PuntYard::new, PuntYardEdges::rich, PuntYardEdges::full};
        for (Maker maker : makers) {
            for (Method method : PuntYard.class.getMethods()) {
                if (method.getDeclaringClass() == PuntYard.class) {
                    tryAll(method, maker.made(), odd);
                }
            }
        }
    }

    private static void tryAll(Method method, PuntYard x, int[] odd) throws Exception {
        Class<?>[] kinds = method.getParameterTypes();
        int base = kinds.length > 3 ? 5 : odd.length;
        int ways = 1;
        for (int i = 0; i < kinds.length; i++) {
            ways *= base;
        }
        for (int way = 0; way < ways; way++) {
            Object[] given = new Object[kinds.length];
            int rest = way;
            for (int i = 0; i < kinds.length; i++) {
                int v = odd[rest % base];
                given[i] = kinds[i] == boolean.class ? (Object) (v > 0) : (Object) v;
                rest /= base;
            }
            try {
                method.invoke(x, given);
            } catch (InvocationTargetException thrown) {
                due(method.getName() + java.util.Arrays.toString(given) + " threw " + thrown.getCause(), 1, 0);
            }
        }
    }
}
