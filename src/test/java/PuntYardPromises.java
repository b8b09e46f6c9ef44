/** Each promise by hand: ordinary inputs, the edges that the document names, and wrong inputs. */
public final class PuntYardPromises {
    private static final int NONE = PuntYard.NONE;
    private static final int NO_COIN = -1000000;
    private static int wrong = 0;
    private static int promise = 0;

    private static void due(String what, long got, long want) {
        if (got != want) {
            wrong++;
            System.out.println("promise " + promise + ": " + what + " answered " + got + ", due is " + want);
        }
    }

    private static void holds(String what, boolean got, boolean want) {
        due(what, got ? 1 : 0, want ? 1 : 0);
    }

    private static void feedText(PuntYard x, String text) {
        StringBuilder padded = new StringBuilder(text);
        while (padded.length() % 20 != 0) {
            padded.append(' ');
        }
        for (int i = 0; i < padded.length(); i += 20) {
            int[] n = new int[5];
            for (int k = 0; k < 20; k++) {
                n[k / 4] = n[k / 4] << 8 | padded.charAt(i + k) & 255;
            }
            x.feed(n[0], n[1], n[2], n[3], n[4]);
        }
    }

    private static int tell(PuntYard x, String text, int day) {
        feedText(x, text);
        return x.law(text.length(), day);
    }

    private static PuntYard under(String text) {
        PuntYard x = new PuntYard();
        due("law of '" + text + "'", tell(x, text, 0), 0);
        return x;
    }

    private static void faultAt(String text, int place) {
        PuntYard x = new PuntYard();
        int number = tell(x, text, 0);
        due("law of '" + text + "'", number, place == NONE ? 0 : NONE);
        due("fault of '" + text + "'", x.fault(), place);
        due("tape behind '" + text + "'", x.count(8), 0);
    }

    private static String times(int n, String text) {
        return text.repeat(n);
    }

    public static void main(String[] args) {
        newObject();
        tape();
        laws();
        faults();
        rules();
        riverState();
        boatsAndHires();
        conditions();
        asKnown();
        bills();
        sums();
        days();
        queues();
        chances();
        protection();
        roller();
        guides();
        poles();
        dock();
        touts();
        swansAndRegattas();
        images();
        counts();
        limits();
        System.out.println(wrong == 0 ? "all promises hold" : wrong + " answers are not as due");
        if (wrong != 0) {
            System.exit(1);
        }
    }

    private static void newObject() {
        promise = 1;
        PuntYard x = new PuntYard();
        for (int what = 0; what <= 13; what++) {
            due("count " + what, x.count(what), 0);
        }
        due("fault", x.fault(), NONE);
        due("rule 0", x.rule(99, 0), NONE);
        due("known", x.known(0, 0), -2);
        due("takings", x.takings(0, 0), 0);
        due("NONE", PuntYard.NONE, -1);
    }

    private static void tape() {
        promise = 2;
        PuntYard x = new PuntYard();
        for (int i = 1; i <= 45; i++) {
            due("feed", x.feed(0x20202020, 0x20202020, 0x20202020, 0x20202020, 0x20202020), 20 * i);
        }
        due("feed beyond 900", x.feed(1, 2, 3, 4, 5), NONE);
        due("bytes", x.count(8), 900);
        due("law of blanks", x.law(900, 0), 0);
        due("highest byte first", tell(x, "rain 7;", 0), 1);
        due("rain", x.rule(0, 43), 7);
        due("bytes above 127", x.feed(-1, -1, -1, -1, -1), 20);
        due("law of bytes 255", x.law(20, 0), NONE);
        due("fault", x.fault(), 0);
    }

    private static void laws() {
        promise = 3;
        PuntYard x = new PuntYard();
        feedText(x, "rain 11;rain 22;    ");
        due("n below 0", x.law(-1, 0), -2);
        due("n beyond", x.law(21, 0), -2);
        due("n far beyond", x.law(Integer.MAX_VALUE, 0), -2);
        due("no day", x.law(8, -1), -2);
        due("no day", x.law(8, 100), -2);
        due("nothing done", x.count(8), 20);
        due("first bytes", x.law(8, 99), 0);
        due("rain by the first bytes alone", x.rule(99, 43), 11);
        due("none ahead of the day", x.rule(98, 0), NONE);
        due("tape is empty", x.count(8), 0);
        due("law of nothing", x.law(0, 10), 1);
        due("later day", tell(x, "rain 20;", 20), 2);
        due("same day", tell(x, "rain 21;", 20), 3);
        due("told last, earlier day", tell(x, "rain 5;", 5), 4);
        due("day 4", x.rule(4, 0), NONE);
        due("day 5", x.rule(5, 0), 4);
        due("day 9", x.rule(9, 43), 5);
        due("day 10", x.rule(10, 0), 1);
        due("day 20", x.rule(20, 0), 3);
        due("day 98", x.rule(98, 0), 3);
        due("day 99", x.rule(99, 0), 0);
        feedText(x, "rain");
        due("five are there", x.law(4, 0), -3);
        due("five are there, n beyond", x.law(21, 0), -2);
        due("nothing done", x.count(8), 20);
        due("laws", x.count(0), 5);
    }

    private static void faults() {
        promise = 4;
        faultAt("", NONE);
        faultAt(" \n ", NONE);
        faultAt("rain 5", 6);
        faultAt("rain 5  \n", 9);
        faultAt("rain 5;;", 7);
        faultAt("rain", 4);
        faultAt("rain 101;", 5);
        faultAt("rain 100;", NONE);
        faultAt("rain 007;", NONE);
        faultAt("rain 0007;", 5);
        faultAt("rain five;", 5);
        faultAt("rain -5;", 5);
        faultAt("Rain 5;", 0);
        faultAt("raining 5;", 0);
        faultAt("rai 5;", 0);
        faultAt("rain 5;\tprice", 7);
        faultAt("  #", 2);
        faultAt("rain5;cushion999;", NONE);
        faultAt("cushion 1000;", 8);
        faultAt("water 5;", 0);
        faultAt("each 5;", 0);
        faultAt("5;", 0);
        faultAt(";", 0);
        faultAt("price 4 1 each 1;", 6);
        faultAt("price 3 999 each 240;", NONE);
        faultAt("price 003 000 each 001;", NONE);
        faultAt("price 3 1 each 0;", 15);
        faultAt("price 3 1 each 241;", 15);
        faultAt("price 3 1 60;", 10);
        faultAt("price 3 1 eachs 60;", 10);
        faultAt("price 3 1each60;", NONE);
        faultAt("price 31 1 each 60;", 6);
        faultAt("busy 0 to 719 100;", NONE);
        faultAt("busy 720 to 719 100;", 5);
        faultAt("busy 719 to 719 0;", NONE);
        faultAt("busy 100 to 99 1;", 12);
        faultAt("busy 100 to 100 1;", NONE);
        faultAt("busy 100 to 720 1;", 12);
        faultAt("busy 100 100 1;", 9);
        faultAt("busy 1 to 2 101;", 12);
        faultAt("deposit 4 1;", 8);
        faultAt("deposit 0 999;", NONE);
        faultAt("late 1 each 1 grace 241;", 20);
        faultAt("late 1 each 1 grace 240;", NONE);
        faultAt("late 1 each 1;", 13);
        faultAt("right 9 3 240;", NONE);
        faultAt("right 10 3 240;", 6);
        faultAt("right 9 4 240;", 8);
        faultAt("right 9 3 0;", 10);
        faultAt("harm 5;", NONE);
        faultAt("harm 100;", NONE);
        faultAt("harm 101;", 5);
        faultAt(times(900, ";"), 0);
        faultAt(times(900, "#"), 0);
        faultAt("rain 1;" + times(893, "("), 7);
        faultAt("shut if day=1" + times(110, "or day=1") + ";", NONE);
        faultAt("harm 5 if;", 9);
        faultAt("harm 5 if", 9);
        faultAt("harm 5 water < 3;", 7);
        faultAt("harm 5 if water < 3;", NONE);
        faultAt("shut;", 4);
        faultAt("shut if water;", 13);
        faultAt("shut if water 3;", 14);
        faultAt("shut if water < ;", 16);
        faultAt("shut if water << 3;", 15);
        faultAt("shut if water <= 3;", 15);
        faultAt("shut if water < 1000;", 16);
        faultAt("shut if water < 999;", NONE);
        faultAt("shut if price < 3;", 8);
        faultAt("shut if water < 3 );", 18);
        faultAt("shut if (water < 3;", 18);
        faultAt("shut if (water < 3", 18);
        faultAt("shut if ();", 9);
        faultAt("shut if water < 3 and;", 21);
        faultAt("shut if water < 3 or or;", 21);
        faultAt("shut if water < 3 not day = 1;", 18);
        faultAt("shut if not not day = 1 and not(day=1or(week=1));", NONE);
        faultAt("shut if water<1orday<1;", 15);
        faultAt("shut if " + times(8, "(") + "day=1" + times(8, ")") + ";", NONE);
        faultAt("shut if " + times(9, "(") + "day=1" + times(9, ")") + ";", 16);
        faultAt("shut if " + times(8, "not ") + "day=1;", NONE);
        faultAt("shut if " + times(9, "not ") + "day=1;", 40);
        faultAt("shut if " + times(4, "not(") + "not day=1" + times(4, ")") + ";", 24);
        faultAt("shut if " + times(4, "not(") + "day=1" + times(4, ")") + ";", NONE);
        faultAt("shut if " + times(8, "not ") + "(", 40);
        faultAt("shut if " + times(8, "not ") + "day=1 and " + times(8, "not ") + "day=2;", NONE);
        faultAt("shut if (" + times(7, "not ") + "day=1 or not (not day=2));", NONE);
        faultAt("shut if " + times(8, "("), 16);
        faultAt(times(40, "rain 1;"), NONE);
        faultAt(times(40, "rain 1;") + " \n", NONE);
        faultAt(times(40, "rain 1;") + " rain 1;", 281);
        faultAt(times(40, "rain 1;") + " #", 281);
        faultAt(times(40, "shut if day=1;"), NONE);
        PuntYard x = new PuntYard();
        tell(x, "rain;", 0);
        due("fault", x.fault(), 4);
        due("law that did nothing", x.law(1, 0), -2);
        due("fault stays", x.fault(), 4);
        due("law", x.law(0, 0), 0);
        due("fault is gone", x.fault(), NONE);
        feedText(x, "each 60");
        due("cut short", x.law(2, 0), NONE);
        due("fault", x.fault(), 0);
    }

    private static void rules() {
        promise = 5;
        PuntYard x = under("price 2 7 each 9;price 2 8 each 10;deposit 1 5;deposit 1 6;late 3 each 4 grace 5;rain 6;"
            + "cushion 7;right 9 3 8;right 9 3 9;right 0 0 1;");
        due("price", x.rule(0, 12), 8);
        due("each", x.rule(0, 22), 10);
        due("deposit", x.rule(0, 31), 6);
        due("price of another", x.rule(0, 11), 0);
        due("each of another", x.rule(0, 21), 60);
        due("deposit of another", x.rule(0, 33), 0);
        due("late", x.rule(99, 40), 3);
        due("its each", x.rule(99, 41), 4);
        due("grace", x.rule(99, 42), 5);
        due("rain", x.rule(99, 43), 6);
        due("cushion", x.rule(99, 44), 7);
        due("right", x.rule(99, 193), 9);
        due("right", x.rule(99, 100), 1);
        due("right of another", x.rule(99, 192), 0);
        int[] none = {-1, 1, 9, 14, 19, 24, 34, 39, 45, 99, 104, 109, 194, 199, 200, Integer.MIN_VALUE, Integer.MAX_VALUE};
        for (int what : none) {
            due("rule " + what, x.rule(0, what), NONE);
        }
        due("no day", x.rule(-1, 10), NONE);
        due("no day", x.rule(100, 10), NONE);
        PuntYard y = new PuntYard();
        due("each without", y.rule(0, 23), 60);
        due("late each without", y.rule(0, 41), 60);
        due("grace without", y.rule(0, 42), 0);
        due("a fault leaves nothing", tell(y, "rain 5;late 1 each 2 grace 3;price 0 1 each 2;right 0 0 5;x", 0), NONE);
        due("a law behind it", tell(y, "cushion 1;", 0), 0);
        due("rain", y.rule(0, 43), 0);
        due("late each", y.rule(0, 41), 60);
        due("each", y.rule(0, 20), 60);
        due("right", y.rule(0, 100), 0);
    }

    private static void riverState() {
        promise = 6;
        PuntYard x = under("shut if water < 50;");
        x.boat(0);
        due("50 at first", x.free(0, 0), 1);
        holds("water", x.water(0, 49), true);
        due("below", x.free(0, 0), 0);
        due("another day", x.free(0, 720), 1);
        holds("water 0", x.water(99, 0), true);
        holds("water 99", x.water(99, 99), true);
        holds("water -1", x.water(0, -1), false);
        holds("water 100", x.water(0, 100), false);
        holds("day -1", x.water(-1, 5), false);
        holds("day 100", x.water(100, 5), false);
        promise = 7;
        due("spell", x.rain(0, 0, 0), 1);
        due("spell", x.rain(99, 0, 719), 2);
        due("backward", x.rain(0, 1, 0), NONE);
        due("minute 720", x.rain(0, 0, 720), NONE);
        due("minute -1", x.rain(0, -1, 5), NONE);
        due("day 100", x.rain(100, 0, 5), NONE);
        for (int i = 3; i <= 40; i++) {
            due("spell", x.rain(5, 10, 20), i);
        }
        due("spell 41", x.rain(5, 10, 20), NONE);
        due("spells", x.count(4), 40);
        promise = 15;
        due("no weed", x.count(299), 0);
        holds("weed", x.weed(99), true);
        due("day 0", x.count(200), 0);
        due("day 1", x.count(201), 99);
        due("day 10", x.count(210), 990);
        due("day 11", x.count(211), 999);
        holds("rate 100", x.weed(100), false);
        holds("rate -1", x.weed(-1), false);
        due("as before", x.count(201), 99);
        promise = 16;
        holds("cut", x.cut(5), true);
        holds("cut again", x.cut(5), false);
        holds("day -1", x.cut(-1), false);
        holds("day 100", x.cut(100), false);
        due("ahead of it", x.count(204), 396);
        due("on it", x.count(205), 0);
        due("behind it", x.count(207), 198);
        holds("cut day 0", x.cut(0), true);
        due("since day 0", x.count(203), 297);
    }

    private static void boatsAndHires() {
        promise = 8;
        PuntYard x = new PuntYard();
        due("kind -1", x.boat(-1), NONE);
        due("kind 4", x.boat(4), NONE);
        for (int i = 0; i < 20; i++) {
            due("boat", x.boat(i % 4), i);
        }
        due("boat 21", x.boat(0), NONE);
        promise = 9;
        due("free", x.free(0, 0), 1);
        due("free", x.free(19, 71999), 1);
        due("boat -1", x.free(-1, 0), NONE);
        due("boat 20", x.free(20, 0), NONE);
        due("moment -1", x.free(0, -1), NONE);
        due("moment 72000", x.free(0, 72000), NONE);
        promise = 10;
        due("boat 20", x.out(20, 0, 0, 1), NONE);
        due("who 10", x.out(0, 10, 0, 1), NONE);
        due("who -1", x.out(0, -1, 0, 1), NONE);
        due("moment 72000", x.out(0, 0, 72000, 1), NONE);
        due("booked 0", x.out(0, 0, 0, 0), NONE);
        due("booked 721", x.out(0, 0, 0, 721), NONE);
        due("booked most", x.out(0, 0, 0, Integer.MAX_VALUE), NONE);
        due("beyond the day", x.out(0, 0, 719, 2), NONE);
        due("to the day's end", x.out(0, 9, 719, 1), 0);
        due("a whole day", x.out(1, 0, 720, 720), 1);
        due("it's out", x.free(0, 719), 0);
        due("it's out later", x.free(0, 5000), 0);
        due("it goes out earlier", x.free(0, 718), 0);
        due("out again", x.out(0, 0, 5000, 1), NONE);
        promise = 11;
        due("hire -1", x.back(-1, 719), NONE);
        due("hire 2", x.back(2, 719), NONE);
        due("ahead of out", x.back(1, 719), NONE);
        due("another day", x.back(0, 720), NONE);
        due("moment -1", x.back(0, -1), NONE);
        due("back at once", x.back(0, 719), 3);
        due("back again", x.back(0, 719), NONE);
        due("free then", x.free(0, 719), 1);
        due("not ahead of it", x.free(0, 718), 0);
        due("back at the day's end", x.back(1, 1439), 4);
        promise = 12;
        due("out", x.out(1, 2, 1500, 10), 2);
        due("isn't back", x.mend(2, 1505), NONE);
        due("mend", x.mend(1, 720), 6);
        due("mend ahead of out", x.mend(1, 719), NONE);
        due("mend on another day", x.mend(1, 1440), NONE);
        due("hire 3", x.mend(3, 1440), NONE);
        due("back", x.back(2, 1550), 7);
        due("out at once", x.out(1, 2, 1550, 10), 3);
        due("mend behind the next", x.mend(2, 1551), NONE);
        due("mend to the next", x.mend(2, 1550), 9);
        due("mend ahead of the next", x.mend(2, 1501), 10);
        due("another boat's out is none", x.out(2, 2, 1502, 10), 4);
        due("mend", x.mend(2, 1549), 12);
        promise = 13;
        due("swamp", x.swamp(4, 9999), 13);
        due("coin 10000", x.swamp(4, 10000), NONE);
        due("coin -1", x.swamp(4, -1), NONE);
        due("hire 5", x.swamp(5, 1), NONE);
        promise = 14;
        due("cushions", x.cushions(4, 9, 0), 14);
        due("10 taken", x.cushions(4, 10, 0), NONE);
        due("10 brought", x.cushions(4, 0, 10), NONE);
        due("-1 taken", x.cushions(4, -1, 0), NONE);
        due("-1 brought", x.cushions(4, 0, -1), NONE);
        due("hire -1", x.cushions(-1, 1, 1), NONE);
        promise = 17;
        int[] first = {0, 9, 719, 1, 1, 0, 0};
        int[] fourth = {2, 2, 1502, 10, 11, 65535, 1};
        x.pass(4, 65535, true);
        for (int what = 0; what < 7; what++) {
            due("hire 0, " + what, x.hire(0, what), first[what]);
            due("hire 4, " + what, x.hire(4, what), fourth[what]);
        }
        due("what 7", x.hire(0, 7), NONE);
        due("what -1", x.hire(0, -1), NONE);
        due("hire 5", x.hire(5, 0), NONE);
    }

    private static void shuts(String condition, boolean want) {
        PuntYard x = under("shut if " + condition + ";");
        x.boat(0);
        x.boat(2);
        x.boat(3);
        x.weed(7);
        x.water(8, 30);
        x.rain(8, 100, 109);
        int moment = 8 * 720 + 105;
        x.out(0, 0, moment, 5);
        due("shut if " + condition, x.free(1, moment), want ? 0 : 1);
    }

    private static void conditions() {
        promise = 9;
        shuts("water<31", true);
        shuts("water<30", false);
        shuts("water=30", true);
        shuts("water>30", false);
        shuts("water>29", true);
        shuts("rain=1", true);
        shuts("rain=0", false);
        shuts("day=8", true);
        shuts("week=1", true);
        shuts("minute=105", true);
        shuts("kind=2", true);
        shuts("weed=56", true);
        shuts("day=7 or day=8", true);
        shuts("day=8 and day=7", false);
        shuts("day=8 or day=7 and day=6", true);
        shuts("(day=8 or day=7) and day=6", false);
        shuts("day=6 and day=7 or day=8", true);
        shuts("not day=7", true);
        shuts("not day=8 or day=8", true);
        shuts("not (day=8 or day=8)", false);
        shuts("not day=8 and day=7", false);
        shuts("not not day=8", true);
        shuts("not (not (not (day=8)))", false);
        shuts("day=1 or day=2 or day=3 or day=8", true);
        shuts("day=8 and day=8 and day=8 and week=2", false);
        shuts(times(8, "(day=1 or week=1 and ") + "day=8" + times(8, ")"), true);
        shuts(times(8, "(day=1 or week=1 and ") + "day=7" + times(8, ")"), false);
        shuts("day=1" + times(109, "or day=1") + "or day=8", true);
        shuts("not day=8" + times(72, "or not day=8") + "or not day=7", true);
        shuts("day=1;shut if day=8", true);
        PuntYard x = under("shut if out>1;");
        x.boat(0);
        x.boat(0);
        x.boat(0);
        due("none is out", x.out(0, 0, 10, 5), 0);
        due("one is out", x.out(1, 0, 12, 5), 1);
        due("two are out", x.free(2, 12), 0);
        due("ahead of both", x.free(2, 9), 1);
        due("one at that moment", x.free(2, 11), 1);
        due("back", x.back(0, 13), 3);
        due("two at 12", x.free(2, 12), 0);
        due("one at 13", x.free(2, 13), 1);
        due("not back, so out on later days", x.free(2, 7200), 1);
        due("law of a later day", tell(x, "shut if out > 0;", 10), 1);
        due("shut then", x.free(2, 7200), 0);
        due("day 9 as before", x.free(2, 7199), 1);
    }

    private static void asKnown() {
        promise = 18;
        PuntYard x = new PuntYard();
        x.boat(0);
        x.boat(1);
        due("out", x.out(0, 1, 100, 60), 0);
        due("out", x.out(1, 2, 110, 60), 1);
        due("back", x.back(0, 150), 3);
        due("mend", x.mend(0, 140), 4);
        due("swamp", x.swamp(1, 0), 5);
        due("cushions", x.cushions(1, 3, 3), 6);
        due("back", x.back(1, 150), 7);
        due("swamp", x.swamp(1, 8), 8);
        int[] zeroth = {-2, NONE, NONE, 150, 140, 140, 140, 140, 140};
        int[] first = {-2, -2, NONE, NONE, NONE, NONE, NONE, 150, 150};
        for (int t = 0; t <= 8; t++) {
            due("known(0, " + t + ")", x.known(0, t), zeroth[t]);
            due("known(1, " + t + ")", x.known(1, t), first[t]);
        }
        due("telling 9", x.known(0, 9), -2);
        due("telling -1", x.known(0, -1), -2);
        due("hire 2", x.known(2, 8), -2);
        due("hire -1", x.known(-1, 8), -2);
        promise = 20;
        due("none by 0", x.outs(120, 0), 0);
        due("one by 1", x.outs(120, 1), 1);
        due("both by 2", x.outs(120, 2), 3);
        due("at 99", x.outs(99, 8), 0);
        due("at 100", x.outs(100, 8), 1);
        due("at 110", x.outs(110, 8), 3);
        due("at 139", x.outs(139, 8), 3);
        due("at 140", x.outs(140, 8), 2);
        due("at 140 by 3", x.outs(140, 3), 3);
        due("at 150", x.outs(150, 8), 0);
        due("not back by 6, days later", x.outs(71999, 6), 2);
        due("moment 72000", x.outs(72000, 8), NONE);
        due("moment -1", x.outs(-1, 8), NONE);
        due("telling 9", x.outs(0, 9), NONE);
        promise = 22;
        due("0 and 1", x.differ(0, 1, NONE), 1);
        due("1 and 2", x.differ(1, 2, 0), 1);
        due("2 and 3", x.differ(2, 3, 0), 0);
        due("3 and 4", x.differ(3, 4, 0), 0);
        due("4 and 6, cushions", x.differ(4, 6, NONE), 1);
        due("6 and 5", x.differ(6, 5, 0), 1);
        due("7 and 8, swamp", x.differ(7, 8, 0), 1);
        due("0 and 8", x.differ(0, 8, NONE), 2);
        due("0 and 8, second", x.differ(0, 8, 1), 1);
        due("0 and 8, third", x.differ(0, 8, 2), NONE);
        due("k -2", x.differ(0, 8, -2), NONE);
        due("telling 9", x.differ(0, 9, NONE), NONE);
        due("telling -1", x.differ(-1, 8, NONE), NONE);
        due("itself", x.differ(8, 8, NONE), 0);
    }

    private static void dueBill(PuntYard x, int hire, int telling, int... want) {
        for (int what = 0; what < want.length; what++) {
            due("bill(" + hire + ", " + telling + ", " + what + ")", x.bill(hire, telling, what), want[what]);
        }
    }

    private static void bills() {
        promise = 19;
        PuntYard x = under("price 0 10 each 30;busy 100 to 199 50;busy 150 to 150 25;deposit 0 40;"
            + "late 4 each 15 grace 5;rain 50;right 1 0 50;cushion 3;harm 10 if out>1;harm 20 if rain=1;");
        for (int i = 0; i < 4; i++) {
            x.boat(0);
        }
        x.out(0, 0, 150, 60);
        x.back(0, 210);
        dueBill(x, 0, 2, 60, 0, 35, 0, 0, 0, 35, 40, 0, NO_COIN);
        x.out(0, 0, 300, 10);
        x.back(1, 300);
        dueBill(x, 1, 4, 0, 0, 0, 0, 0, 0, 0, 40, 0);
        x.mend(1, 315);
        dueBill(x, 1, 5, 15, 0, 10, 0, 0, 0, 10, 40, 0);
        x.mend(1, 316);
        dueBill(x, 1, 6, 16, 0, 10, 4, 0, 0, 14, 36, 0);
        x.mend(1, 326);
        dueBill(x, 1, 7, 26, 0, 10, 8, 0, 0, 18, 32, 0);
        x.cushions(1, 9, 2);
        dueBill(x, 1, 8, 26, 0, 10, 8, 0, 0, 39, 11, 21);
        x.cushions(1, 2, 9);
        dueBill(x, 1, 9, 26, 0, 10, 8, 0, 0, 18, 32, 0);
        x.swamp(1, 99);
        dueBill(x, 1, 10, 26, 0, 10, 8, 0, 99, 117, 0, 0);
        x.rain(0, 300, 300);
        dueBill(x, 1, 10, 26, 0, 10, 8, 0, 19, 37, 13, 0);
        x.rain(0, 300, 325);
        dueBill(x, 1, 10, 26, 0, 10, 8, 5, 19, 32, 13, 0);
        x.rain(0, 326, 719);
        x.rain(0, 0, 299);
        x.rain(1, 310, 320);
        dueBill(x, 1, 10, 26, 0, 10, 8, 5, 19, 32, 13, 0);
        due("out together", x.out(1, 5, 300, 10), 2);
        dueBill(x, 1, 10, 26, 0, 10, 8, 5, 19, 32, 13, 0);
        dueBill(x, 1, 11, 26, 0, 10, 8, 5, 9, 22, 23, 0);
        dueBill(x, 2, 11, NO_COIN, NO_COIN);
        due("what -1", x.bill(1, 11, -1), NO_COIN);
        due("hire 3", x.bill(3, 11, 0), NO_COIN);
        due("telling 12", x.bill(1, 12, 0), NO_COIN);
        due("telling -1", x.bill(1, -1, 0), NO_COIN);
        due("not told by then", x.bill(1, 2, 0), NO_COIN);
        due("not back by then", x.bill(1, 3, 0), NO_COIN);
        freeMinutes();
        busyMost();
        harms();
    }

    private static void freeMinutes() {
        PuntYard x = under("price 0 1 each 1;price 1 1 each 1;right 1 0 50;right 2 0 240;");
        int[] kinds = {0, 0, 0, 1, 0};
        for (int kind : kinds) {
            x.boat(kind);
        }
        x.out(0, 1, 200, 1);
        x.back(0, 230);
        dueBill(x, 0, 2, 30, 30, 0);
        x.out(1, 1, 100, 1);
        x.back(1, 140);
        dueBill(x, 0, 4, 30, 10, 20);
        dueBill(x, 1, 4, 40, 40, 0);
        x.out(2, 1, 200, 1);
        x.back(2, 205);
        dueBill(x, 0, 6, 30, 10, 20);
        dueBill(x, 2, 6, 5, 0, 5);
        x.mend(1, 103);
        dueBill(x, 0, 7, 30, 30, 0);
        dueBill(x, 2, 7, 5, 5, 0);
        dueBill(x, 0, 6, 30, 10, 20);
        x.out(3, 1, 10, 1);
        x.back(3, 110);
        x.out(4, 2, 10, 1);
        x.back(4, 110);
        dueBill(x, 3, 11, 100, 0, 100);
        dueBill(x, 4, 11, 100, 100, 0);
        dueBill(x, 0, 11, 30, 30, 0);
        x.out(0, 1, 730, 1);
        x.back(5, 800);
        dueBill(x, 5, 13, 70, 50, 20);
        PuntYard y = under("price 0 1 each 1;right 1 0 50;");
        for (int i = 0; i < 3; i++) {
            y.boat(0);
            y.out(i, 1, 100 + i, 1);
            y.back(i, i == 0 ? 149 : 110);
        }
        dueBill(y, 1, 6, 9, 1, 8);
        dueBill(y, 2, 6, 8, 0, 8);
        promise = 23;
        due("cost", x.cost(1, 13), 30 + 3 + 5 + 50);
        due("cost by 6", x.cost(1, 6), 10 + 40);
        due("cost of another", x.cost(2, 13), 100);
        due("cost of none", x.cost(3, 13), 0);
        due("who 10", x.cost(10, 13), NONE);
        due("who -1", x.cost(-1, 13), NONE);
        due("telling 14", x.cost(1, 14), NONE);
        promise = 19;
    }

    private static void busyMost() {
        PuntYard x = under("price 0 999 each 240;" + times(9, "busy 0 to 719 100;") + "busy 5 to 5 99;");
        x.boat(0);
        x.out(0, 0, 5, 1);
        x.back(0, 6);
        dueBill(x, 0, 2, 1, 0, 9990);
        PuntYard y = under("price 0 7 each 240;busy 5 to 5 33;busy 6 to 9 100;busy 0 to 4 100;");
        y.boat(0);
        y.out(0, 0, 5, 1);
        y.back(0, 100);
        dueBill(y, 0, 2, 95, 0, 9);
    }

    private static void harms() {
        PuntYard x = under("harm 33 if kind=1;harm 50 if not kind=0;harm 60 if weed>0;");
        for (int kind = 0; kind < 3; kind++) {
            x.boat(kind);
            x.out(kind, 0, 720, 5);
            x.swamp(kind, 101);
            x.back(kind, 730);
        }
        due("without any that holds", x.bill(0, 9, 5), 101);
        due("the first", x.bill(1, 9, 5), 33);
        due("the second", x.bill(2, 9, 5), 50);
        x.weed(1);
        due("the third", x.bill(0, 9, 5), 60);
        PuntYard y = under("harm 10 if out=0;harm 20 if out=1;harm 30;harm 40;");
        y.boat(0);
        y.boat(0);
        y.out(0, 0, 50, 5);
        y.swamp(0, 100);
        y.back(0, 50);
        due("back at once, none is out", y.bill(0, 3, 5), 10);
        y.mend(0, 51);
        due("itself is out", y.bill(0, 4, 5), 20);
        y.out(1, 0, 50, 5);
        due("both are out", y.bill(0, 5, 5), 30);
    }

    private static void sums() {
        promise = 21;
        PuntYard x = under("price 0 10 each 30;");
        x.boat(0);
        x.boat(0);
        x.out(0, 0, 100, 10);
        x.out(1, 0, 100, 10);
        x.back(0, 150);
        x.back(1, 220);
        x.out(0, 0, 800, 10);
        x.back(2, 801);
        x.out(1, 0, 800, 10);
        due("takings", x.takings(0, 7), 60);
        due("by 3", x.takings(0, 3), 20);
        due("by 0", x.takings(0, 0), 0);
        due("day 1", x.takings(1, 7), 10);
        due("day 2", x.takings(2, 7), 0);
        due("day 100", x.takings(100, 7), NO_COIN);
        due("day -1", x.takings(-1, 7), NO_COIN);
        due("telling 8", x.takings(0, 8), NO_COIN);
        promise = 26;
        due("minutes", x.worn(0, 7, 0), 51);
        due("hires", x.worn(0, 7, 1), 2);
        due("minutes", x.worn(1, 7, 0), 120);
        due("hires", x.worn(1, 7, 1), 1);
        due("by 3", x.worn(1, 3, 0), 0);
        due("boat 2", x.worn(2, 7, 0), NONE);
        due("what 2", x.worn(0, 7, 2), NONE);
        due("telling 8", x.worn(0, 8, 0), NONE);
        promise = 27;
        due("first", x.old(0, 7), 1);
        due("second", x.old(1, 7), 0);
        due("first by 3", x.old(0, 3), 0);
        due("alike by 0", x.old(0, 0), 0);
        due("alike by 0", x.old(1, 0), 1);
        due("k 2", x.old(2, 7), NONE);
        due("k -1", x.old(-1, 7), NONE);
        due("telling 8", x.old(0, 8), NONE);
    }

    private static void days() {
        promise = 24;
        PuntYard x = under("price 0 100 each 240;rain 100;");
        x.boat(0);
        x.boat(0);
        x.out(0, 1, 300, 10);
        x.back(0, 400);
        due("the first of the best", x.worst(0, 2, 0), 300);
        due("wet of all then", x.worst(0, 2, 1), 60);
        x.rain(0, 300, 309);
        due("wet ones count once", x.worst(0, 2, 0), 310);
        due("wet of all then", x.worst(0, 2, 1), 70);
        x.out(1, 2, 700, 10);
        x.back(1, 719);
        due("a short hire is wet whole", x.worst(0, 4, 0), 659);
        due("wet of all then", x.worst(0, 4, 1), 110);
        due("by 2", x.worst(0, 2, 0), 310);
        due("none", x.worst(0, 0, 0), 0);
        due("none", x.worst(0, 0, 1), 0);
        due("another day", x.worst(1, 4, 0), 0);
        due("day 100", x.worst(100, 4, 0), NONE);
        due("telling 5", x.worst(0, 5, 0), NONE);
        due("what 2", x.worst(0, 4, 2), NONE);
        PuntYard last = under("price 0 100 each 240;rain 100;");
        last.boat(0);
        last.out(0, 1, 600, 1);
        last.back(0, 719);
        last.rain(0, 600, 659);
        due("the last hour but one", last.worst(0, 2, 0), 659);
        due("all is wet", last.worst(0, 2, 1), 100);
        PuntYard early = under("price 0 100 each 240;rain 100;");
        early.boat(0);
        early.out(0, 1, 0, 1);
        early.back(0, 61);
        due("from the first minute", early.worst(0, 2, 0), 0);
        early.rain(0, 0, 0);
        due("from the second minute", early.worst(0, 2, 0), 1);
        promise = 25;
        due("none together", x.together(1, 2, 0, 4, 0), 0);
        due("none is first", x.together(1, 2, 0, 4, 1), NONE);
        PuntYard y = new PuntYard();
        y.boat(0);
        y.boat(0);
        y.boat(0);
        y.out(0, 1, 700, 10);
        y.out(1, 2, 710, 10);
        due("till the day's end", y.together(1, 2, 0, 2, 0), 10);
        due("first", y.together(2, 1, 0, 2, 1), 710);
        due("on later days", y.together(1, 2, 3, 2, 0), 720);
        due("first", y.together(1, 2, 3, 2, 1), 0);
        y.back(0, 715);
        due("till it's back", y.together(1, 2, 0, 3, 0), 5);
        due("not on later days", y.together(1, 2, 1, 3, 0), 0);
        y.out(2, 1, 712, 5);
        y.back(2, 719);
        due("two boats of one", y.together(1, 2, 0, 5, 0), 9);
        due("who alike", y.together(1, 1, 0, 5, 0), NONE);
        due("who 10", y.together(1, 10, 0, 5, 0), NONE);
        due("who -1", y.together(-1, 1, 0, 5, 0), NONE);
        due("day 100", y.together(1, 2, 100, 5, 0), NONE);
        due("telling 6", y.together(1, 2, 0, 6, 0), NONE);
        due("what 2", y.together(1, 2, 0, 5, 2), NONE);
    }

    private static void queues() {
        promise = 28;
        PuntYard x = new PuntYard();
        holds("early 241", x.doubt(241, 0), false);
        holds("late 241", x.doubt(0, 241), false);
        holds("early -1", x.doubt(-1, 0), false);
        holds("late -1", x.doubt(0, -1), false);
        promise = 29;
        for (int i = 0; i < 4; i++) {
            x.boat(i == 3 ? 1 : 0);
        }
        x.out(0, 0, 100, 60);
        x.out(1, 0, 100, 30);
        x.out(3, 0, 100, 5);
        due("at once", x.queue(0, 1, 110, 0), 0);
        due("the second", x.queue(0, 2, 110, 0), 20);
        due("the third", x.queue(0, 3, 110, 1), 50);
        due("the fourth", x.queue(0, 4, 110, 0), NONE);
        due("ahead of all", x.queue(0, 3, 99, 0), 0);
        due("another kind", x.queue(1, 1, 101, 0), 4);
        due("none of a kind", x.queue(2, 1, 101, 0), NONE);
        promise = 28;
        holds("doubt", x.doubt(15, 240), true);
        due("least", x.queue(0, 2, 110, 0), 5);
        due("least", x.queue(0, 3, 110, 0), 35);
        due("most", x.queue(0, 2, 110, 1), 260);
        due("not ahead of the moment", x.queue(0, 2, 120, 0), 0);
        due("refused", x.doubt(300, 0) ? 1 : 0, 0);
        due("as before", x.queue(0, 2, 110, 0), 5);
        promise = 29;
        due("late in all ways", x.queue(0, 3, 72000 - 1, 1), 0);
        x.back(0, 120);
        due("known to be back later", x.queue(0, 3, 110, 0), 35);
        due("back then", x.queue(0, 2, 120, 1), 0);
        due("kind 4", x.queue(4, 1, 110, 0), NONE);
        due("k 0", x.queue(0, 0, 110, 0), NONE);
        due("k -1", x.queue(0, -1, 110, 0), NONE);
        due("k most", x.queue(0, Integer.MAX_VALUE, 110, 0), NONE);
        due("moment 72000", x.queue(0, 1, 72000, 0), NONE);
        due("what 2", x.queue(0, 1, 110, 2), NONE);
    }

    private static PuntYard withChances(int... parties) {
        PuntYard x = new PuntYard();
        for (int hour = 0; hour < 12; hour++) {
            if (parties.length == 1) {
                x.chance(hour, parties[0], 10);
            } else {
                x.chance(hour, parties[0], 5);
                x.chance(hour, parties[1], 5);
            }
        }
        return x;
    }

    private static void chances() {
        promise = 30;
        PuntYard x = new PuntYard();
        holds("hour 12", x.chance(12, 0, 1), false);
        holds("hour -1", x.chance(-1, 0, 1), false);
        holds("6 parties", x.chance(0, 6, 1), false);
        holds("-1 parties", x.chance(0, -1, 1), false);
        holds("11 parts", x.chance(0, 0, 11), false);
        holds("-1 parts", x.chance(0, 0, -1), false);
        for (int hour = 0; hour < 12; hour++) {
            due("not whole", x.count(9), 0);
            due("not whole", x.keep(1, 1, 2), NONE);
            due("not whole", x.least(1, 0), NONE);
            due("not whole", x.protect(1, 1, 1, 0), NONE);
            holds("chance", x.chance(hour, 5, 10), true);
        }
        due("whole", x.count(9), 1);
        x.chance(0, 0, 1);
        due("eleven parts", x.count(9), 0);
        x.chance(0, 5, 9);
        due("whole", x.count(9), 1);
        promise = 31;
        PuntYard five = withChances(5);
        due("12 boats, 1 hour", five.keep(12, 1, 0), 60);
        due("3 boats, 1 hour", five.keep(3, 1, 0), 36);
        due("12 boats, 3 hours", five.keep(12, 3, 0), 5 + 5 + 2 + 5 + 5 + 2 + 5 + 5 + 2 + 5 + 5 + 2);
        due("7 boats, 2 hours", five.keep(7, 2, 0), 6 * 7);
        due("wanted", five.keep(0, 1, 2), 60);
        due("of", five.keep(0, 1, 3), 1);
        due("none", five.keep(0, 3, 0), 0);
        due("of", five.keep(0, 3, 1), 1);
        due("13 boats", five.keep(13, 1, 0), NONE);
        due("-1 boats", five.keep(-1, 1, 2), NONE);
        due("0 hours", five.keep(1, 0, 0), NONE);
        due("4 hours", five.keep(1, 4, 0), NONE);
        due("what 4", five.keep(1, 1, 4), NONE);
        due("what -1", five.keep(1, 1, -1), NONE);
        PuntYard half = withChances(0, 1);
        due("half come", half.keep(1, 1, 0), 6);
        due("wanted", half.keep(1, 1, 2), 6);
        due("half come for two hours", half.keep(1, 2, 0), 16839);
        due("of", half.keep(1, 2, 1), 4096);
        half.chance(0, 0, 9);
        half.chance(0, 1, 1);
        due("wanted", half.keep(1, 1, 2), 28);
        due("of", half.keep(1, 1, 3), 5);
        PuntYard none = withChances(0);
        due("none come", none.keep(5, 2, 0), 0);
        due("of", none.keep(5, 2, 1), 1);
        due("none wanted", none.keep(5, 2, 2), 0);
        due("of", none.keep(5, 2, 3), 1);
        promise = 32;
        due("all of none", none.least(1, 100), 0);
        due("all", five.least(1, 100), 5);
        due("99", five.least(1, 99), 5);
        due("80", five.least(1, 80), 4);
        due("81", five.least(1, 81), 5);
        due("none up to 12", five.least(3, 81), NONE);
        due("48 of 60", five.least(3, 80), 12);
        due("part 101", none.least(1, 101), NONE);
        due("part -1", none.least(1, -1), NONE);
        due("0 hours", five.least(0, 1), NONE);
        due("4 hours", five.least(4, 1), NONE);
    }

    private static void protection() {
        promise = 33;
        PuntYard x = withChances(0, 5);
        due("alike: keep none", x.protect(5, 10, 10, 0), 0);
        due("coin", x.protect(5, 10, 10, 1), 5 * 10 * 75);
        due("twice: all are kept for none or some", x.protect(5, 10, 20, 0), 0);
        due("more", x.protect(5, 10, 21, 0), 5);
        due("coin", x.protect(5, 10, 21, 1), 5 * 21 * 50);
        due("eight boats", x.protect(8, 10, 21, 0), 5);
        due("coin", x.protect(8, 10, 21, 1), 50 * 3 * 10 + 50 * 5 * 21);
        due("0 boats", x.protect(0, 10, 20, 0), 0);
        due("0 boats' coin", x.protect(0, 10, 20, 1), 0);
        due("12 boats", x.protect(12, 999, 999, 1), 500 * 999);
        due("13 boats", x.protect(13, 1, 1, 0), NONE);
        due("-1 boats", x.protect(-1, 1, 1, 0), NONE);
        due("coin 1000", x.protect(1, 1000, 1, 0), NONE);
        due("coin 1000", x.protect(1, 1, 1000, 0), NONE);
        due("coin -1", x.protect(1, -1, 1, 0), NONE);
        due("what 2", x.protect(1, 1, 1, 2), NONE);
        x.chance(11, 0, 4);
        due("not whole by a later hour", x.protect(1, 1, 1, 0), NONE);
    }

    private static void dueOrder(PuntYard x, int sum, int... order) {
        due("sum", x.rolled(0), sum);
        for (int i = 0; i < order.length; i++) {
            due("turn " + i, x.rolled(10 + i), order[i]);
        }
        due("beyond", x.rolled(10 + order.length), NONE);
    }

    private static void roller() {
        promise = 34;
        PuntYard x = new PuntYard();
        due("minute 720", x.roll(720, 1), NONE);
        due("minute -1", x.roll(-1, 1), NONE);
        due("takes 0", x.roll(0, 0), NONE);
        due("takes 100", x.roll(0, 100), NONE);
        promise = 35;
        dueOrder(x, 0);
        due("first", x.roll(5, 50), 1);
        dueOrder(x, 0, 0);
        x.roll(6, 1);
        dueOrder(x, 2, 1, 0);
        x.roll(7, 1);
        dueOrder(x, 3, 1, 2, 0);
        due("what 1", x.rolled(1), NONE);
        due("what 9", x.rolled(9), NONE);
        due("what -1", x.rolled(-1), NONE);
        due("what most", x.rolled(Integer.MAX_VALUE), NONE);
        due("what least", x.rolled(Integer.MIN_VALUE), NONE);
        PuntYard y = new PuntYard();
        for (int i = 0; i < 7; i++) {
            due("roll", y.roll(10, 2), i + 1);
        }
        due("roll 8", y.roll(10, 2), NONE);
        dueOrder(y, 42, 0, 1, 2, 3, 4, 5, 6);
    }

    private static void guides() {
        promise = 36;
        PuntYard x = new PuntYard();
        due("songs 256", x.guide(256), NONE);
        due("songs -1", x.guide(-1), NONE);
        due("guide", x.guide(3), 0);
        due("guide", x.guide(255), 1);
        due("guide", x.guide(0), 2);
        promise = 37;
        due("songs 256", x.party(256, 1), NONE);
        due("songs -1", x.party(-1, 1), NONE);
        due("coin 1000", x.party(1, 1000), NONE);
        due("coin -1", x.party(1, -1), NONE);
        due("party", x.party(1, 10), 0);
        due("party", x.party(4, 99), 1);
        due("party", x.party(8, 100), 2);
        promise = 38;
        due("how many", x.guided(0), 2);
        due("coin", x.guided(1), 110);
        due("the first", x.guided(10), 0);
        due("the second", x.guided(11), NONE);
        due("the third", x.guided(12), 1);
        due("party 3", x.guided(13), NONE);
        due("what 2", x.guided(2), NONE);
        due("what 9", x.guided(9), NONE);
        due("what -1", x.guided(-1), NONE);
        due("what most", x.guided(Integer.MAX_VALUE), NONE);
        promise = 39;
        due("part 101", x.pay(101), NONE);
        due("part -1", x.pay(-1), NONE);
        due("parties stay", x.count(7), 3);
        due("pay", x.pay(55), 2);
        due("parties are gone", x.count(7), 0);
        due("pay none", x.pay(55), 0);
        promise = 40;
        due("earned", x.earned(0), 5);
        due("earned", x.earned(1), 55);
        due("earned", x.earned(2), 0);
        due("spread", x.earned(NONE), 55);
        due("guide 3", x.earned(3), NONE);
        due("guide -2", x.earned(-2), NONE);
        due("no guides", new PuntYard().earned(NONE), 0);
        promise = 38;
        due("party", x.party(0, 7), 0);
        due("who has earned least", x.guided(10), 2);
        due("party", x.party(1, 7), 1);
        due("party", x.party(0, 7), 2);
        due("who has earned least", x.guided(10), 2);
        due("then", x.guided(11), 0);
        due("then", x.guided(12), 1);
        due("pay", x.pay(100), 3);
        due("earned", x.earned(0), 12);
        PuntYard y = new PuntYard();
        for (int i = 0; i < 8; i++) {
            due("guide", y.guide(255), i);
            due("party", y.party(i, 1), i);
        }
        due("guide 9", y.guide(1), NONE);
        due("party 9", y.party(1, 1), NONE);
        due("all", y.guided(0), 8);
        for (int i = 0; i < 8; i++) {
            due("of several the least number", y.guided(10 + i), i);
        }
        PuntYard z = new PuntYard();
        z.guide(1);
        z.party(1, 5);
        z.party(1, 6);
        due("the most coin", z.guided(1), 6);
        due("none", z.guided(10), NONE);
        z.party(1, 6);
        due("the least party of several", z.guided(11), 0);
        due("none behind", z.guided(12), NONE);
        due("free of charge", new PuntYard().guided(1), 0);
    }

    private static void poles() {
        promise = 41;
        PuntYard x = new PuntYard();
        for (int i = 0; i < 4; i++) {
            x.boat(0);
            x.out(i, 0, 100 + 10 * (i / 2), 5);
        }
        holds("hire 4", x.pass(4, 1, true), false);
        holds("hire -1", x.pass(-1, 1, true), false);
        holds("reaches 65536", x.pass(0, 65536, true), false);
        holds("reaches -1", x.pass(0, -1, true), false);
        due("none at first", x.hire(0, 5), 0);
        promise = 42;
        due("nowhere", x.pole(0), 0);
        holds("pass", x.pass(0, 0xffff, false), true);
        holds("pass", x.pass(1, 0x000f, true), true);
        holds("pass", x.pass(2, 0x00f1, true), true);
        holds("pass", x.pass(3, 0x0f00, false), true);
        due("of those that are later and clean", x.pole(0), 0xff0e);
        due("one that is as late is none", x.pole(1), 0x000e);
        due("the last", x.pole(2), 0x00f1);
        due("no telling", x.count(3), 4);
        x.pass(2, 0x00f1, false);
        due("not clean any more", x.pole(0), 0xffff);
        due("hire 4", x.pole(4), NONE);
        due("hire -1", x.pole(-1), NONE);
    }

    private static void dock() {
        promise = 43;
        PuntYard x = new PuntYard();
        holds("no boat", x.paint(0, 1, 1), false);
        for (int i = 0; i < 12; i++) {
            x.boat(0);
        }
        holds("weeks 10", x.paint(0, 10, 1), false);
        holds("weeks -1", x.paint(0, -1, 1), false);
        holds("coin 100", x.paint(0, 1, 100), false);
        holds("coin -1", x.paint(0, 1, -1), false);
        promise = 44;
        due("nothing", x.painted(1, 0), 0);
        due("nothing", x.painted(2, 1), 0);
        holds("paint", x.paint(3, 9, 1), true);
        holds("paint", x.paint(5, 1, 9), true);
        due("the dear one first", x.painted(1, 0), 9 + 10);
        due("one berth has no second", x.painted(1, 1), 0);
        due("two berths", x.painted(2, 0), 18);
        due("the least set", x.painted(2, 1), 8);
        holds("paint", x.paint(11, 1, 9), true);
        due("one berth", x.painted(1, 0), 9 + 18 + 11);
        due("two berths", x.painted(2, 0), 9 + 9 + 10);
        due("the least set", x.painted(2, 1), 1 << 5);
        due("berths 0", x.painted(0, 0), NONE);
        due("berths 3", x.painted(3, 0), NONE);
        due("what 2", x.painted(1, 2), NONE);
        promise = 46;
        due("nothing to save", x.renew(90, 0), 0);
        due("the least set", x.renew(90, 1), 0);
        promise = 45;
        holds("fail", x.fail(3, 100, 999), true);
        holds("fail", x.fail(5, 50, 20), true);
        holds("fail", x.fail(11, 20, 50), true);
        holds("fail of one that isn't dry", x.fail(0, 100, 999), true);
        holds("boat 12", x.fail(12, 1, 1), false);
        holds("part 101", x.fail(0, 101, 1), false);
        holds("part -1", x.fail(0, -1, 1), false);
        holds("coin 1000", x.fail(0, 1, 1000), false);
        holds("coin -1", x.fail(0, 1, -1), false);
        promise = 46;
        due("no week", x.renew(0, 0), 0);
        due("one week", x.renew(1, 0), 1000);
        due("the least set", x.renew(1, 1), 1 << 5);
        due("two weeks", x.renew(2, 1), 1 << 5 | 1 << 11);
        due("nine weeks", x.renew(9, 0), 99900);
        due("nine weeks", x.renew(9, 1), 1 << 3);
        due("all", x.renew(11, 0), 101900);
        due("weeks 91", x.renew(91, 0), NONE);
        due("weeks -1", x.renew(-1, 0), NONE);
        due("what 2", x.renew(1, 2), NONE);
        promise = 43;
        holds("none again", x.paint(3, 0, 0), true);
        due("gone", x.painted(1, 0), 27);
        for (int i = 0; i < 10; i++) {
            holds("paint", x.paint(i, 1, 1), i != 9);
        }
        holds("one of the ten", x.paint(0, 2, 1), true);
        holds("none of one that has none", x.paint(9, 0, 1), true);
        holds("one less", x.paint(0, 0, 1), true);
        holds("room again", x.paint(9, 1, 1), true);
    }

    private static void touts() {
        promise = 47;
        PuntYard x = new PuntYard();
        due("coin 1000", x.loyal(1000), NONE);
        due("coin -1", x.loyal(-1), NONE);
        promise = 48;
        due("no party, no price", x.tout(100, 5, 0), 0);
        due("no gain", x.tout(100, 5, 3), 0);
        due("loyal", x.loyal(0), 1);
        due("loyal", x.loyal(10), 2);
        due("loyal", x.loyal(150), 3);
        due("price", x.tout(100, 30, 0), 110 * 2 > 300 ? 110 : 100);
        due("income", x.tout(100, 30, 1), 300);
        due("go", x.tout(100, 30, 2), 0);
        due("gain", x.tout(100, 30, 3), 0);
        due("price", x.tout(20, 50, 0), 170);
        due("income", x.tout(20, 50, 1), 170);
        due("go", x.tout(20, 50, 2), 2);
        due("gain less the fine", x.tout(20, 50, 3), -10);
        due("dear rival", x.tout(999, 0, 0), 999);
        due("free rival", x.tout(0, 9999, 3), -9999);
        due("rival 1000", x.tout(1000, 0, 0), NO_COIN);
        due("rival -1", x.tout(-1, 0, 0), NO_COIN);
        due("fine 10000", x.tout(1, 10000, 0), NO_COIN);
        due("fine -1", x.tout(1, -1, 0), NO_COIN);
        due("what 4", x.tout(1, 1, 4), NO_COIN);
        due("what -1", x.tout(1, 1, -1), NO_COIN);
        PuntYard poor = new PuntYard();
        poor.loyal(1);
        due("a price of one", poor.tout(0, 0, 0), 1);
        PuntYard even = new PuntYard();
        even.loyal(100);
        even.loyal(0);
        due("the least price of two", even.tout(100, 0, 0), 100);
        promise = 47;
        for (int i = 4; i <= 12; i++) {
            due("loyal", x.loyal(999), i);
        }
        due("loyal 13", x.loyal(1), NONE);
    }

    private static void swansAndRegattas() {
        promise = 49;
        PuntYard x = new PuntYard();
        due("reach 16", x.nest(16, 0, 1), NONE);
        due("reach -1", x.nest(-1, 0, 1), NONE);
        due("backward", x.nest(1, 2, 1), NONE);
        due("day 100", x.nest(1, 2, 100), NONE);
        due("day -1", x.nest(1, -1, 2), NONE);
        due("nest", x.nest(15, 1, 2), 1);
        due("nest", x.nest(0, 2, 2), 2);
        promise = 50;
        due("day 100", x.regatta(100, 0, 1, 1), NONE);
        due("backward", x.regatta(0, 1, 0, 1), NONE);
        due("minute 720", x.regatta(0, 1, 720, 1), NONE);
        due("minute -1", x.regatta(0, -1, 7, 1), NONE);
        due("reaches 65536", x.regatta(0, 1, 2, 65536), NONE);
        due("reaches -1", x.regatta(0, 1, 2, -1), NONE);
        due("regatta", x.regatta(2, 110, 119, 6), 1);
        due("regatta", x.regatta(2, 150, 150, 0x0100), 2);
        due("regatta", x.regatta(2, 719, 719, 0x0200), 3);
        due("regatta", x.regatta(3, 0, 719, 0xffff), 4);
        promise = 51;
        x.boat(0);
        x.boat(0);
        x.out(0, 0, 1440 + 119, 20);
        due("passes nothing", x.barred(0, 1), 0);
        x.pass(0, 0xffff, false);
        due("till the day's end", x.barred(0, 1), 0x8000 | 1 | 6 | 0x0100 | 0x0200);
        x.back(0, 1440 + 150);
        due("till it's back", x.barred(0, 2), 0x8000 | 1 | 6);
        x.mend(0, 1440 + 151);
        due("a minute more", x.barred(0, 3), 0x8000 | 1 | 6 | 0x0100);
        due("as known", x.barred(0, 2), 0x8000 | 1 | 6);
        x.pass(0, 0x8002, false);
        due("what it passes", x.barred(0, 3), 0x8002);
        x.mend(0, 1440 + 119);
        due("never out", x.barred(0, 4), 0x8000);
        PuntYard behind = new PuntYard();
        behind.boat(0);
        behind.regatta(0, 110, 119, 6);
        behind.out(0, 0, 120, 20);
        behind.pass(0, 0xffff, false);
        due("behind the regatta", behind.barred(0, 1), 0);
        x.out(1, 0, 720 + 120, 20);
        x.pass(1, 0xffff, true);
        due("another day", x.barred(1, 5), 0x8000);
        due("not told by then", x.barred(1, 4), NONE);
        due("telling 6", x.barred(1, 6), NONE);
        due("hire 2", x.barred(2, 5), NONE);
        due("hire -1", x.barred(-1, 5), NONE);
        promise = 49;
        for (int i = 3; i <= 20; i++) {
            due("nest", x.nest(3, 0, 99), i);
        }
        due("nest 21", x.nest(3, 0, 99), NONE);
        promise = 50;
        for (int i = 5; i <= 10; i++) {
            due("regatta", x.regatta(0, 0, 0, 0), i);
        }
        due("regatta 11", x.regatta(0, 0, 0, 0), NONE);
    }

    private static long[] answers(PuntYard x) {
        long[] row = new long[400];
        int n = 0;
        for (int what = 1; what <= 12; what++) {
            row[n++] = what == 8 ? 0 : x.count(what);
        }
        int last = x.count(3);
        for (int what = 0; what < 9; what++) {
            row[n++] = x.hire(0, what);
            row[n++] = x.bill(0, last, what);
        }
        row[n++] = x.count(250);
        row[n++] = x.known(0, last);
        row[n++] = x.takings(0, last);
        row[n++] = x.free(0, 100);
        row[n++] = x.queue(0, 2, 120, 1);
        row[n++] = x.keep(2, 2, 0);
        row[n++] = x.rolled(0);
        row[n++] = x.rolled(10);
        row[n++] = x.guided(1);
        row[n++] = x.guided(10);
        row[n++] = x.earned(0);
        row[n++] = x.pole(0);
        row[n++] = x.painted(2, 0);
        row[n++] = x.renew(5, 0);
        row[n++] = x.tout(50, 5, 1);
        row[n++] = x.barred(0, last);
        return row;
    }

    private static void dueAnswers(String what, long[] got, long[] want) {
        for (int i = 0; i < got.length; i++) {
            due(what + ", answer " + i, got[i], want[i]);
        }
    }

    private static void changeAll(PuntYard x) {
        x.water(0, 3);
        x.rain(0, 100, 200);
        x.boat(0);
        x.boat(0);
        x.out(0, 3, 100, 60);
        x.out(1, 3, 110, 50);
        x.back(0, 190);
        x.swamp(0, 50);
        x.cushions(0, 5, 1);
        x.weed(3);
        x.cut(10);
        x.doubt(3, 30);
        for (int hour = 0; hour < 12; hour++) {
            x.chance(hour, 2, 10);
        }
        x.roll(5, 5);
        x.roll(4, 50);
        x.guide(3);
        x.party(1, 100);
        x.pay(50);
        x.party(2, 70);
        x.pass(0, 0xff, true);
        x.paint(0, 3, 30);
        x.fail(0, 30, 300);
        x.loyal(30);
        x.nest(3, 0, 5);
        x.regatta(0, 150, 160, 0xf0);
    }

    private static void images() {
        promise = 52;
        PuntYard x = under("price 0 10 each 30;rain 50;cushion 3;shut if water < 2;");
        long[] bare = answers(x);
        due("image", x.image(), 0);
        changeAll(x);
        long[] full = answers(x);
        due("image", x.image(), 1);
        promise = 53;
        feedText(x, "rain 6;");
        holds("restore", x.restore(0), true);
        dueAnswers("as at first", answers(x), bare);
        due("the tape stays", x.count(8), 20);
        due("laws stay", x.law(7, 5), 1);
        due("images stay", x.count(13), 2);
        x.boat(3);
        x.out(0, 9, 0, 5);
        x.out(0, 8, 10, 5);
        x.weed(50);
        holds("restore", x.restore(1), true);
        dueAnswers("as it was", answers(x), full);
        due("laws stay", x.count(0), 2);
        due("law of day 5", x.rule(5, 0), 1);
        feedText(x, "?");
        due("fault", x.law(1, 0), NONE);
        holds("restore", x.restore(1), true);
        due("the fault stays", x.fault(), 0);
        x.mend(0, 180);
        x.swamp(0, 60);
        holds("an image is not changed by what is told later", x.restore(1), true);
        dueAnswers("as it was", answers(x), full);
        holds("image 2", x.restore(2), false);
        holds("image -1", x.restore(-1), false);
        promise = 52;
        due("image", x.image(), 2);
        due("image 4", x.image(), NONE);
        due("images", x.count(13), 3);
        holds("restore", x.restore(0), true);
        due("images stay", x.image(), NONE);
        due("a new hire passes nothing", x.boat(0), 0);
        x.out(0, 0, 0, 1);
        due("reaches", x.hire(0, 5), 0);
        due("clean", x.hire(0, 6), 0);
    }

    private static void counts() {
        promise = 54;
        PuntYard x = under("rain 1;");
        changeAll(x);
        x.loyal(1);
        x.image();
        feedText(x, "x");
        int[] want = {1, 2, 2, 5, 1, 2, 1, 1, 20, 1, 2, 1, 1, 1};
        for (int what = 0; what < want.length; what++) {
            due("count(" + what + ")", x.count(what), want[what]);
        }
        int[] none = {-1, 14, 100, 199, 300, Integer.MIN_VALUE, Integer.MAX_VALUE};
        for (int what : none) {
            due("count(" + what + ")", x.count(what), NONE);
        }
        due("weed", x.count(209), 27);
        due("weed behind the cut", x.count(299), 267);
    }

    private static void limits() {
        promise = 10;
        PuntYard x = new PuntYard();
        x.boat(0);
        for (int i = 0; i < 120; i++) {
            due("out", x.out(0, 0, i, 1), i);
            due("back", x.back(i, i), 2 * i + 2);
        }
        due("it could", x.free(0, 200), 1);
        due("hire 121", x.out(0, 0, 200, 1), NONE);
        promise = 13;
        for (int t = 241; t <= 400; t++) {
            due("swamp", x.swamp(0, 1), t);
        }
        due("telling 401", x.swamp(0, 1), NONE);
        promise = 14;
        due("telling 401", x.cushions(0, 1, 1), NONE);
        promise = 12;
        due("telling 401", x.mend(0, 0), NONE);
        PuntYard y = new PuntYard();
        y.boat(0);
        y.boat(0);
        y.out(0, 0, 0, 1);
        for (int t = 2; t <= 400; t++) {
            y.swamp(0, t);
        }
        promise = 10;
        due("400 are there", y.out(1, 0, 0, 1), NONE);
        due("no hire", y.count(2), 1);
        promise = 11;
        due("400 are there", y.back(0, 5), NONE);
        due("it isn't back", y.known(0, 400), NONE);
        promise = 9;
        due("it could", y.free(1, 0), 1);
    }
}
