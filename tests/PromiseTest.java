/** For each promise of ../shared/DOC.md: ordinary calls, the edges that it names, and wrong ones. Worked out by hand. */
public final class PromiseTest extends Check {
    // a grave NEED and a lighter one for whom only two can do anything: the better one is spent too early by SKILLED
    private static final String EARLY = "p00,0000;p00,2400;p00,1000;n00510;n01510;";

    public static void main(String[] args) {
        newObject();
        feed();
        townSound();
        townFaultOfLetter();
        townFaultOfStatement();
        person();
        need();
        set();
        minutes();
        spent();
        spentByYears();
        spentBySize();
        may();
        good();
        help();
        back();
        year();
        chosen();
        chosenByLoss();
        chosenByNumbers();
        loss();
        run();
        without();
        most();
        mostRefused();
        first();
        gap();
        worth();
        keeps();
        lasts();
        many();
        move();
        bestPlace();
        strangers();
        smallest();
        byLaw();
        seeds();
        row();
        judge();
        clear();
        image();
        restore();
        count();
        end("PromiseTest");
    }

    private static void newObject() {
        of("promise 1");
        HelpedOnlyOnce x = new HelpedOnlyOnce();
        for (int what = 0; what <= 7; what++) {
            due("count(" + what + ")", x.count(what), 0);
        }
        for (int what = 11; what <= 16; what++) {
            due("count(" + what + ")", x.count(what), 0);
        }
        due("person(0, 0)", x.person(0, 0), -1);
        due("need(0, 0)", x.need(0, 0), -1);
        due("set(0, 0)", x.set(0, 0), 0);
        due("set(1, 3)", x.set(1, 3), 3);
        due("set(2, 3)", x.set(2, 3), 3);
        due("set(3, 0)", x.set(3, 0), 0);
        due("back()", x.back(), -3);
        due("restore()", x.restore(), -3);
        due("clear()", x.clear(), 0);
        due("most()", x.most(), 0);
        HelpedOnlyOnce other = new HelpedOnlyOnce();
        tell(other, EARLY);
        due("count(0) of another object", x.count(0), 0);
    }

    private static void feed() {
        of("promise 2");
        HelpedOnlyOnce x = new HelpedOnlyOnce();
        due("feed(0)", x.feed(0), 1);
        due("feed(255)", x.feed(255), 2);
        due("feed(-1)", x.feed(-1), -4);
        due("feed(256)", x.feed(256), -6);
        due("feed(least)", x.feed(Integer.MIN_VALUE), -4);
        due("feed(greatest)", x.feed(Integer.MAX_VALUE), -6);
        due("count(5)", x.count(5), 2);
        for (int i = 3; i <= 64; i++) {
            due("feed a letter", x.feed('p'), i);
        }
        due("feed the 65th", x.feed('p'), -6);
        due("feed(-1) then", x.feed(-1), -4);
        due("count(5) full", x.count(5), 64);
        due("count(14)", x.count(14), 3);
        due("count(16)", x.count(16), 3);
        due("town()", x.town(), -1000);
        due("feed anew", x.feed('p'), 1);
    }

    private static void townSound() {
        of("promise 3");
        HelpedOnlyOnce x = new HelpedOnlyOnce();
        due("two of PEOPLE", feedAll(x, "p07,0123;p699,4567;"), 2);
        due("KIND", x.person(0, 0), 0);
        due("PLACE of a digit", x.person(0, 1), 7);
        due("SKILL 0", x.person(0, 2), 0);
        due("SKILL 3", x.person(0, 5), 3);
        due("KIND SHY", x.person(1, 0), 6);
        due("PLACE of two digits", x.person(1, 1), 99);
        due("SKILL 0 behind two digits", x.person(1, 2), 4);
        due("SKILL 3 behind two digits", x.person(1, 5), 7);
        due("letters", x.count(5), 0);
        due("place 00", feedAll(x, "p100,9999;"), 1);
        due("PLACE 00", x.person(2, 1), 0);
        due("one more and its NEED", feedAll(x, "p203,1111;n33939;n00110;"), 3);
        due("WHO", x.need(0, 0), 3);
        due("HELP", x.need(0, 1), 3);
        due("GRAVE", x.need(0, 2), 9);
        due("HANDS", x.need(0, 3), 3);
        due("YEAR", x.need(0, 4), 9);
        due("have helped", x.need(0, 5), 0);
        due("second WHO", x.need(1, 0), 0);
        due("LAWS", feedAll(x, "l319;l290;"), 2);
        due("LAW", x.set(0, 0), 2);
        due("SPAN", x.set(1, 1), 9);
        due("SIZE", x.set(2, 1), 0);
        due("as long as may be", feedAll(x, "n00110;n00110;n00110;n00110;n00110;n00110;n00110;n00110;l010;"), 9);
        due("NEEDS", x.count(1), 10);
        due("twelve", feedAll(x, "n00110;n00110;"), 2);
        due("thirteen", feedAll(x, "l110;n00110;"), -2005);
        due("LAW unchanged", x.count(7), 0);
        due("seven", feedAll(x, "p10,0000;p10,0000;p10,0000;"), 3);
        due("eight", feedAll(x, "p10,0000;"), -2000);
        due("count(0)", x.count(0), 7);
    }

    private static void townFaultOfLetter() {
        of("promise 3");
        String[] texts = {"", ";", "P01,1111;", "x", "p", "px", "p0", "p0,", "p01", "p01x", "p0100", "p012;", "p01,", "p01,1",
            "p01,11", "p01,111", "p01,1111", "p01,111;", "p01,11111", "p01,1111;p", "p01,1111;;", "n", "n0", "n00", "n001",
            "n0011", "n00110", "n0011;", "n001100", "n00110;n", "l", "l0", "l03", "l033", "l03;", "l0333", "l033;x",
            "p91,1111;x", "n00110;n0011x", "p01,1111; ", " p01,1111;", "p01:1111;", "p0/,1111;", "l03\u00ff;", "l\u0000", "p01,1 11;"};
        int[] places = {0, 0, 0, 0, 1, 1, 2, 2, 3, 3, 4, 4, 4, 5,
            6, 7, 8, 7, 8, 10, 9, 1, 2, 3, 4,
            5, 6, 5, 6, 8, 1, 2, 3, 4, 3, 4, 5,
            9, 12, 9, 0, 3, 2, 3, 1, 5};
        HelpedOnlyOnce x = new HelpedOnlyOnce();
        for (int i = 0; i < texts.length; i++) {
            due("town of " + texts[i], feedAll(x, texts[i]), -1000 - places[i]);
            due("count(5) behind " + texts[i], x.count(5), 0);
        }
        due("count(0)", x.count(0), 0);
        for (int what = 11; what <= 16; what++) {
            due("count(" + what + "): a FAULT is not counted", x.count(what), 0);
        }
        due("64 letters that are no end", feedAll(x, times("p01,1111;", 7) + "p"), -1064);
        due("count(0) then", x.count(0), 0);
    }

    private static void townFaultOfStatement() {
        of("promise 3");
        String[] wrong = {"p71,1111;", "p91,1111;", "n10110;", "n04110;", "n00010;", "n00100;", "n00140;", "n90110;",
            "l400;", "l010;l001;", "l000;", "l910;"};
        int[] places = {0, 0, 0, 0, 0, 0, 0, 0, 0, 5, 0, 0};
        HelpedOnlyOnce x = told("p01,1111;");
        for (int i = 0; i < wrong.length; i++) {
            due("town of " + wrong[i], feedAll(x, wrong[i]), -2000 - places[i]);
            due("behind another: " + wrong[i], feedAll(x, "l111;" + wrong[i]), -2005 - places[i]);
        }
        due("count(0)", x.count(0), 1);
        due("count(1)", x.count(1), 0);
        due("count(5)", x.count(5), 0);
        due("LAW", x.set(0, 0), 0);
        due("SPAN", x.set(1, 3), 3);
        due("SIZE", x.set(2, 3), 3);
        due("a WHO who comes behind", feedAll(x, "n10110;p01,1111;"), -2000);
        due("a WHO who came ahead", feedAll(x, "p01,1111;n10110;"), 2);
        due("the first of two wrong ones", feedAll(x, "l111;p81,1111;p71,1111;"), -2005);
        due("eight in one text", feedAll(x, times("p01,1111;", 6)), -2045);
        due("count(0) then", x.count(0), 2);
        for (int what = 11; what <= 16; what++) {
            due("count(" + what + "): a FAULT is not counted", x.count(what), 0);
        }
    }

    private static void person() {
        of("promise 4");
        HelpedOnlyOnce x = told("p542,9876;p01,0000;");
        int[] want = {5, 42, 9, 8, 7, 6};
        for (int what = 0; what < want.length; what++) {
            due("person(0, " + what + ")", x.person(0, what), want[what]);
        }
        due("person(1, 1)", x.person(1, 1), 1);
        due("person(2, 0)", x.person(2, 0), -1);
        due("person(-1, 0)", x.person(-1, 0), -1);
        due("person(2, 9)", x.person(2, 9), -1);
        due("person(0, 6)", x.person(0, 6), -2);
        due("person(0, -1)", x.person(0, -1), -2);
        due("person(greatest, 0)", x.person(Integer.MAX_VALUE, 0), -1);
        due("person(0, least)", x.person(0, Integer.MIN_VALUE), -2);
        due("count(11)", x.count(11), 4);
        due("count(12)", x.count(12), 3);
    }

    private static void need() {
        of("promise 5");
        HelpedOnlyOnce x = told("p01,1111;p01,1111;p01,1111;n13520;n00119;");
        int[] want = {1, 3, 5, 2, 0, 0};
        for (int what = 0; what < want.length; what++) {
            due("need(0, " + what + ")", x.need(0, what), want[what]);
        }
        due("need(1, 4)", x.need(1, 4), 9);
        x.help(2, 0);
        due("need(0, 5) helped once", x.need(0, 5), 1);
        x.help(0, 0);
        due("need(0, 5) helped twice", x.need(0, 5), 2);
        due("need(1, 5)", x.need(1, 5), 0);
        due("need(2, 0)", x.need(2, 0), -1);
        due("need(-1, 0)", x.need(-1, 0), -1);
        due("need(2, 6)", x.need(2, 6), -1);
        due("need(0, 6)", x.need(0, 6), -2);
        due("need(0, -1)", x.need(0, -1), -2);
        due("count(11)", x.count(11), 3);
        due("count(12)", x.count(12), 2);
    }

    private static void set() {
        of("promise 6");
        HelpedOnlyOnce x = new HelpedOnlyOnce();
        int[] first = {0, 3, 3, 0};
        int[] least = {0, 1, 0, 0};
        int[] greatest = {3, 9, 9, 9};
        for (int what = 0; what < 4; what++) {
            due("set(" + what + ", greatest)", x.set(what, greatest[what]), first[what]);
            due("set(" + what + ", above)", x.set(what, greatest[what] + 1), -6);
            due("set(" + what + ", least)", x.set(what, least[what]), greatest[what]);
            due("set(" + what + ", below)", x.set(what, least[what] - 1), -4);
            due("set(" + what + ", least) again", x.set(what, least[what]), least[what]);
        }
        due("set(4, 0)", x.set(4, 0), -2);
        due("set(-1, -1)", x.set(-1, -1), -2);
        due("set(9, 99)", x.set(9, 99), -2);
        due("count(12)", x.count(12), 3);
        due("count(14)", x.count(14), 4);
        due("count(16)", x.count(16), 4);
        x.set(0, 2);
        due("count(7)", x.count(7), 2);
    }

    private static void minutes() {
        of("promise 7");
        HelpedOnlyOnce x = told("p010,1111;p499,1111;");
        due("minutes(0, 1)", x.minutes(0, 1), 89);
        due("minutes(1, 0)", x.minutes(1, 0), 89);
        due("minutes(1, 1)", x.minutes(1, 1), 0);
        due("minutes(2, 0)", x.minutes(2, 0), -1);
        due("minutes(0, 2)", x.minutes(0, 2), -1);
        due("minutes(-1, -1)", x.minutes(-1, -1), -1);
        due("count(11)", x.count(11), 3);
    }

    private static void spent() {
        of("promise 8");
        HelpedOnlyOnce x = told("p01,1111;p01,1111;p41,1111;n00110;n10110;n20110;");
        due("spent(1, 0) with no book", x.spent(1, 0), 0);
        x.help(1, 0);
        due("spent(1, 0)", x.spent(1, 0), 1);
        due("spent(0, 1)", x.spent(0, 1), 1);
        due("spent(0, 2)", x.spent(0, 2), 0);
        due("spent(2, 1)", x.spent(2, 1), 0);
        x.set(0, ONE);
        due("spent(1, 0) by ONE", x.spent(1, 0), 1);
        due("spent(0, 1) by ONE", x.spent(0, 1), 0);
        x.set(0, BOTH);
        x.help(2, 1);
        due("spent(2, 1): a GUEST as helper", x.spent(2, 1), 0);
        due("spent(1, 2): a GUEST helped the other way", x.spent(1, 2), 1);
        x.help(0, 2);
        due("spent(0, 2)", x.spent(0, 2), 1);
        due("spent(2, 0)", x.spent(2, 0), 0);
        due("spent(0, 0)", x.spent(0, 0), -1);
        due("spent(3, 0)", x.spent(3, 0), -1);
        due("spent(0, 3)", x.spent(0, 3), -1);
        due("spent(-1, 0)", x.spent(-1, 0), -1);
        due("count(11)", x.count(11), 4);
    }

    private static void spentByYears() {
        of("promise 8");
        HelpedOnlyOnce x = told("p01,1111;p01,1111;l223;n00111;");
        x.year();
        due("help in YEAR 1", x.help(1, 0), 1);
        due("that YEAR", x.spent(0, 1), 1);
        x.year();
        due("a YEAR on", x.spent(1, 0), 1);
        x.year();
        due("SPAN YEARS on", x.spent(1, 0), 0);
        due("SPAN YEARS on, the other way", x.spent(0, 1), 0);
        x.set(1, 3);
        due("by a longer SPAN", x.spent(0, 1), 1);
        x.set(1, 1);
        due("by a shorter SPAN", x.spent(0, 1), 0);
        x.set(0, BOTH);
        due("by BOTH for ever", x.spent(0, 1), 1);
    }

    private static void spentBySize() {
        of("promise 8");
        HelpedOnlyOnce x = told("p01,1111;p01,1111;l330;n00410;");
        x.help(1, 0);
        for (int size = 0; size <= 9; size++) {
            x.set(2, size);
            due("spent(1, 0) by SIZE " + size, x.spent(1, 0), size <= 4 ? 1 : 0);
            due("spent(0, 1) by SIZE " + size, x.spent(0, 1), size <= 4 ? 1 : 0);
        }
        x.set(0, BOTH);
        due("by BOTH whatever SIZE", x.spent(1, 0), 1);
    }

    private static void may() {
        of("promise 9");
        HelpedOnlyOnce x = told("p050,1111;p670,1111;p671,1111;p629,1111;p499,1111;n10110;n40110;");
        due("may(0, 0)", x.may(0, 0), 0);
        due("may(0, 1)", x.may(0, 1), 1);
        due("SHY at 20 minutes", x.may(1, 0), 1);
        due("SHY at 21 minutes", x.may(2, 0), 0);
        due("SHY at 21 minutes up the lane", x.may(3, 0), 0);
        due("to a SHY one from afar", x.may(0, 2), 1);
        due("GUEST from afar", x.may(4, 0), 1);
        x.help(4, 0);
        due("a GUEST once more", x.may(4, 1), 1);
        due("back to the GUEST", x.may(1, 4), 0);
        x.help(0, 1);
        due("a GUEST whom one has helped", x.may(4, 0), 1);
        due("may(0, 4) SPENT", x.may(0, 4), 0);
        due("may(5, 0)", x.may(5, 0), -1);
        due("may(0, 5)", x.may(0, 5), -1);
        due("may(-1, -1)", x.may(-1, -1), -1);
        due("count(11)", x.count(11), 3);
    }

    private static void good() {
        of("promise 10");
        HelpedOnlyOnce x = told("p00,3700;p125,3700;p225,3700;p325,3700;p425,3700;p525,3700;p625,3700;"
            + "n00910;n01110;n00110;n02919;n00510;");
        int[][] want = {
            {27, 50, 12, 20, 27, 53, 0},
            {7, 5, 2, 0, 7, 8, 0},
            {3, 2, 0, 0, 3, 5, 0},
            {0, 0, 0, 0, 0, 3, 0},
            {15, 26, 6, 8, 15, 29, 0}};
        for (int need = 0; need < want.length; need++) {
            for (int one = 0; one < 7; one++) {
                due("good(" + one + ", " + need + ")", x.good(one, need), want[need][one]);
            }
        }
        x.move(6, 20);
        due("SHY at 20 minutes", x.good(6, 0), 12);
        x.move(6, 21);
        due("SHY at 21 minutes", x.good(6, 0), 0);
        x.move(1, 9);
        due("9 minutes by 10, cut", x.good(1, 1), 7);
        x.move(1, 10);
        due("10 minutes by 10", x.good(1, 1), 6);
        x.move(5, 99);
        due("NURSE from afar", x.good(5, 2), 3);
        due("good(7, 0)", x.good(7, 0), -1);
        due("good(0, 5)", x.good(0, 5), -1);
        due("good(-1, -1)", x.good(-1, -1), -1);
        due("count(11)", x.count(11), 3);
    }

    private static void help() {
        of("promise 11");
        HelpedOnlyOnce x = told("p00,1111;p00,2222;p430,3333;p650,9999;p00,4444;n00520;n00111;n20110;n00310;n10130;");
        due("one helps itself", x.help(0, 0), -3);
        due("help(1, 0)", x.help(1, 0), 10);
        due("count(2)", x.count(2), 1);
        due("SPENT", x.help(1, 3), -3);
        due("SHY far off", x.help(3, 0), -3);
        due("of another YEAR", x.help(2, 1), -3);
        due("help(2, 0) by a GUEST", x.help(2, 0), 15);
        due("no HANDS left", x.help(4, 0), -3);
        due("the GUEST again, another NEED", x.help(2, 3), 9);
        due("the GUEST, another one", x.help(2, 4), 3);
        due("the GUEST twice with one NEED", x.help(2, 4), -3);
        due("another with that NEED", x.help(4, 4), 4);
        due("have helped", x.need(4, 5), 2);
        due("to whom the GUEST was SPENT", x.help(1, 2), -3);
        due("count(2) then", x.count(2), 5);
        due("help(5, 0)", x.help(5, 0), -1);
        due("help(0, 5)", x.help(0, 5), -1);
        due("help(-1, 0)", x.help(-1, 0), -1);
        due("count(11)", x.count(11), 3);
        due("count(13)", x.count(13), 7);
        x.year();
        due("SPENT a YEAR on", x.help(1, 1), -3);
        due("the GUEST a YEAR on", x.help(2, 1), 3);
    }

    private static void back() {
        of("promise 12");
        HelpedOnlyOnce x = told("p00,1111;p00,2222;p40,3333;n00520;n10110;");
        due("back() of nothing", x.back(), -3);
        x.help(1, 0);
        x.help(2, 0);
        x.help(2, 1);
        due("back() third", x.back(), 2);
        due("its NEED is open", x.need(1, 5), 0);
        due("back() second", x.back(), 1);
        due("its NEED", x.need(0, 5), 1);
        due("the first stands", x.spent(1, 0), 1);
        due("the second again", x.help(2, 0), 15);
        x.back();
        due("back() first", x.back(), 0);
        due("not SPENT", x.spent(1, 0), 0);
        due("back() again", x.back(), -3);
        due("count(13)", x.count(13), 2);
        due("first helps again", x.help(1, 0), 10);
    }

    private static void year() {
        of("promise 13");
        HelpedOnlyOnce x = told("p00,1111;p00,1111;n00111;n00110;");
        due("count(3)", x.count(3), 1);
        due("year()", x.year(), 1);
        due("help of YEAR 1", x.help(1, 0), 1);
        for (int y = 2; y <= 99; y++) {
            due("year()", x.year(), y);
        }
        due("year() beyond 99", x.year(), -6);
        due("count(4)", x.count(4), 99);
        due("count(16)", x.count(16), 1);
        due("run(1) then", x.run(1), 0);
    }

    private static void chosen() {
        of("promise 14");
        HelpedOnlyOnce x = told("p040,9999;p010,5900;p020,4000;p060,4100;p499,3000;n00210;n00111;");
        due("NEAR, of several the least", x.chosen(NEAR, 0), 2);
        due("SKILLED, of several the least", x.chosen(SKILLED, 0), 1);
        x.move(1, 0);
        due("SKILLED: 10 less 4 as 8 less 2 and a GUEST's 6", x.chosen(SKILLED, 0), 1);
        x.move(1, 99);
        due("SKILLED: 10 less 5", x.chosen(SKILLED, 0), 2);
        due("NEAR counts a GUEST's minutes", x.chosen(NEAR, 0), 2);
        x.help(2, 0);
        due("no HANDS left", x.chosen(NEAR, 0), -9);
        x.back();
        due("of a later YEAR", x.chosen(NEAR, 1), -9);
        x.year();
        due("of that YEAR", x.chosen(NEAR, 1), 2);
        due("of a YEAR that was", x.chosen(NEAR, 0), -9);
        due("chosen(6, 0)", x.chosen(6, 0), -2);
        due("chosen(-1, 0)", x.chosen(-1, 0), -2);
        due("chosen(6, 9)", x.chosen(6, 9), -2);
        due("chosen(0, 2)", x.chosen(0, 2), -1);
        due("chosen(5, -1)", x.chosen(5, -1), -1);
        due("count(12)", x.count(12), 3);
        due("count(11)", x.count(11), 2);
    }

    private static void chosenByLoss() {
        of("promise 14");
        // GOOD for NEED 0: 1 has 8, 2 has 6, 3 has 0, 4 has 2; LOSS: 1 has 9, 2 has 5, 3 has 0, 4 has 2
        HelpedOnlyOnce x = told("p00,0000;p00,4900;p00,3500;p00,0000;p00,1200;n00210;n01111;");
        due("SPARE", x.chosen(SPARE, 0), 3);
        due("KEEP", x.chosen(KEEP, 0), 2);
        due("SPARE with no NEED behind", x.chosen(SPARE, 1), -9);
        x.year();
        due("SPARE of several the least", x.chosen(SPARE, 1), 1);
        due("KEEP of several the least", x.chosen(KEEP, 1), 1);
        HelpedOnlyOnce none = told("p00,0000;p00,1100;p00,0000;n00210;n01211;");
        due("KEEP nobody: LOSS as much as GOOD", none.chosen(KEEP, 0), -9);
        due("SPARE all the same", none.chosen(SPARE, 0), 2);
    }

    private static void chosenByNumbers() {
        of("promise 14");
        HelpedOnlyOnce x = told("p00,1111;p010,1111;p010,1111;p010,1111;p02,1111;n20110;n00110;n40110;");
        due("NEAR", x.chosen(NEAR, 0), 1);
        due("KIN leaves out 1 and 3", x.chosen(KIN, 0), 4);
        due("KIN of 0 leaves out 1", x.chosen(KIN, 1), 4);
        due("KIN of 4 leaves out 3", x.chosen(KIN, 2), 0);
        due("TOLD with no ROW", x.chosen(TOLD, 0), -9);
        x.row(2);
        due("TOLD with WHO alone", x.chosen(TOLD, 0), -9);
        x.row(3);
        x.row(1);
        due("TOLD the first who MAY", x.chosen(TOLD, 0), 3);
        x.help(3, 0);
        x.set(0, SMALL);
        due("TOLD for another", x.chosen(TOLD, 1), 2);
        due("the ROW stands", x.count(6), 3);
        HelpedOnlyOnce two = told("p00,1111;p00,1111;n00110;");
        due("KIN nobody", two.chosen(KIN, 0), -9);
        due("KIN counts as NEAR else", two.chosen(NEAR, 0), 1);
    }

    private static void loss() {
        of("promise 15");
        HelpedOnlyOnce x = told("p00,1111;p130,5900;n00910;n00210;n01119;n10910;n00119;");
        due("loss(1, 0)", x.loss(1, 0), 14);
        due("loss(1, 1)", x.loss(1, 1), 6);
        due("loss(1, 2)", x.loss(1, 2), 4);
        due("another WHO", x.loss(1, 3), 0);
        due("the last", x.loss(1, 4), 0);
        due("of WHO itself", x.loss(0, 0), 2);
        years(x, 10);
        due("whatever YEAR", x.loss(1, 0), 14);
        HelpedOnlyOnce fewer = told("p00,1111;p00,1111;n00110;");
        fewer.image();
        tell(fewer, "n00910;");
        due("of one more NEED", fewer.loss(1, 0), 9);
        fewer.restore();
        due("which is not there any more", fewer.loss(1, 0), 0);
        due("loss(2, 0)", x.loss(2, 0), -1);
        due("loss(0, 5)", x.loss(0, 5), -1);
        due("loss(-1, 0)", x.loss(-1, 0), -1);
        due("count(11)", x.count(11), 3);
    }

    private static void run() {
        of("promise 16");
        HelpedOnlyOnce x = told(EARLY);
        due("run(NEAR)", x.run(NEAR), 10);
        due("run(SKILLED)", x.run(SKILLED), 10);
        due("run(SPARE)", x.run(SPARE), 25);
        due("run(KEEP)", x.run(KEEP), 25);
        due("run(KIN)", x.run(KIN), 5);
        due("run(TOLD)", x.run(TOLD), 0);
        x.row(2);
        due("run(TOLD)", x.run(TOLD), 5);
        x.row(1);
        due("run(TOLD)", x.run(TOLD), 25);
        due("in mind", x.count(2), 0);
        due("run(6)", x.run(6), -2);
        due("run(-1)", x.run(-1), -2);
        due("count(12)", x.count(12), 2);
        // the first of YEAR 1, then of YEAR 0; a NEED for three; YEAR 9 is done, too
        HelpedOnlyOnce y = told("p00,0000;p40,1000;p00,2000;p00,3000;n00911;n00130;n00519;");
        due("run(SKILLED) through the YEARS", y.run(SKILLED), 6 + 9 + 5);
        y.year();
        due("from YEAR 1", y.run(SKILLED), 27 + 10);
        due("YEAR as it was", y.count(4), 1);
        y.help(1, 0);
        due("with what is done", y.run(SKILLED), 15);
        years(y, 8);
        due("in YEAR 9", y.run(SKILLED), 15);
        y.year();
        due("in YEAR 10", y.run(SKILLED), 0);
        HelpedOnlyOnce z = told("p00,0000;p00,1000;l213;n00110;n00111;n00112;");
        due("by YEARS, SPAN 1", z.run(NEAR), 3);
        z.set(1, 2);
        due("by YEARS, SPAN 2", z.run(NEAR), 2);
    }

    private static void without() {
        of("promise 17");
        HelpedOnlyOnce x = told(EARLY);
        due("without(SKILLED)", x.without(SKILLED), 0);
        due("without(KIN)", x.without(KIN), 1);
        due("without(TOLD)", x.without(TOLD), 2);
        tell(x, "n00532;n00119;n10118;");
        due("without(SKILLED) with more", x.without(SKILLED), 4);
        x.set(0, YEARS);
        x.set(1, 2);
        due("by YEARS, SPAN 2", x.without(SKILLED), 1);
        x.help(1, 0);
        due("one done", x.without(TOLD), 6);
        x.year();
        due("of these YEARS alone", x.without(TOLD), 5);
        years(x, 9);
        due("in YEAR 10", x.without(TOLD), 0);
        due("without(6)", x.without(6), -2);
        due("without(-1)", x.without(-1), -2);
        due("count(12)", x.count(12), 2);
        x.set(3, 9);
        HelpedOnlyOnce y = told(EARLY);
        y.set(3, 9);
        due("strangers don't count", y.without(TOLD), 2);
    }

    private static void most() {
        of("promise 18");
        HelpedOnlyOnce x = told(EARLY);
        due("most()", x.most(), 25);
        x.help(1, 0);
        due("most() with 1 spent", x.most(), 0);
        x.back();
        x.year();
        due("most() a YEAR on", x.most(), 0);
        HelpedOnlyOnce y = told("p00,9000;p00,1000;p40,0000;n10510;n00511;n10512;");
        due("which way of a PAIR, by BOTH", y.most(), 45);
        y.set(0, ONE);
        due("both ways, by ONE", y.most(), 50);
        y.set(0, YEARS);
        due("SPAN 3", y.most(), 45);
        y.set(1, 2);
        due("SPAN 2", y.most(), 90);
        y.set(1, 1);
        due("SPAN 1", y.most(), 95);
        y.set(0, SMALL);
        y.set(2, 5);
        due("SIZE 5", y.most(), 45);
        y.set(2, 6);
        due("SIZE 6", y.most(), 95);
        HelpedOnlyOnce nine = told("p00,0000;p00,3000;p00,2000;n00819;n00112;");
        due("YEAR 9, too", nine.most(), 26);
        due("who helps first so", nine.first(), 2);
        HelpedOnlyOnce z = told("p00,0000;p00,3000;p40,1000;p00,2000;n00130;n00120;n00131;");
        due("GUESTS and several HANDS", z.most(), 8);
        z.help(2, 0);
        due("one HAND done", z.most(), 7);
    }

    private static void mostRefused() {
        of("promise 18");
        HelpedOnlyOnce x = told("p00,1111;p40,1111;" + times("n00111;", 8));
        due("8 NEEDS", x.most(), 8);
        tell(x, "n00110;");
        due("9 NEEDS", x.most(), -6);
        due("first() of 9 NEEDS", x.first(), -6);
        x.help(1, 8);
        due("9 NEEDS, 8 HANDS", x.most(), -6);
        x.year();
        due("8 NEEDS of this YEAR", x.most(), 8);
        due("count(16)", x.count(16), 3);
        HelpedOnlyOnce y = told("p00,1111;p40,1111;p00,1111;p00,1111;n00130;n00131;n00121;");
        due("8 HANDS", y.most(), 5);
        tell(y, "n00110;");
        due("9 HANDS", y.most(), -6);
        y.help(1, 3);
        due("8 HANDS left", y.most(), 5);
    }

    private static void first() {
        of("promise 19");
        due("of nothing", new HelpedOnlyOnce().first(), -9);
        HelpedOnlyOnce x = told(EARLY);
        due("first()", x.first(), 2);
        HelpedOnlyOnce y = told("p00,0000;p00,2400;n00510;n01510;");
        due("nobody first", y.first(), -9);
        HelpedOnlyOnce z = told("p00,0000;p00,0000;p00,0000;n00510;");
        due("nobody last", z.first(), 1);
        HelpedOnlyOnce of = told("p00,0000;p00,0000;p00,1000;p00,1000;n00511;n10110;");
        due("the first HAND is of this YEAR", of.first(), 2);
        years(of, 1);
        due("then of the next", of.first(), 2);
        of.help(2, 0);
        due("no HANDS", of.first(), -9);
        HelpedOnlyOnce no = told("p00,1111;n00110;");
        due("nobody MAY", no.first(), -9);
        due("count(16)", no.count(16), 0);
    }

    private static void gap() {
        of("promise 20");
        HelpedOnlyOnce x = told(EARLY);
        due("gap(NEAR)", x.gap(NEAR), 15);
        due("gap(SKILLED)", x.gap(SKILLED), 15);
        due("gap(SPARE)", x.gap(SPARE), 0);
        due("gap(KIN)", x.gap(KIN), 20);
        due("gap(TOLD)", x.gap(TOLD), 25);
        due("gap(6)", x.gap(6), 1000000002);
        due("gap(-1)", x.gap(-1), 1000000002);
        due("count(12)", x.count(12), 2);
        tell(x, times("n00110;", 7));
        due("gap(0) of 9 NEEDS", x.gap(0), 1000000006);
        due("gap(6) of 9 NEEDS", x.gap(6), 1000000002);
        due("count(16)", x.count(16), 1);
    }

    private static void worth() {
        of("promise 21");
        HelpedOnlyOnce x = told(EARLY);
        due("worth(1, 0)", x.worth(1, 0), 20);
        due("worth(2, 0)", x.worth(2, 0), 5);
        due("worth(0, 1): BOTH", x.worth(0, 1), 20);
        due("worth(1, 2)", x.worth(1, 2), 0);
        x.set(0, ONE);
        due("worth(0, 1): ONE", x.worth(0, 1), 0);
        due("worth(1, 0): ONE", x.worth(1, 0), 20);
        x.set(0, SMALL);
        x.set(2, 9);
        due("worth(1, 0): GRAVE 9 is not below SIZE 9", x.worth(1, 0), 25);
        due("in mind", x.count(2), 0);
        due("worth(1, 1)", x.worth(1, 1), 1000000001);
        due("worth(3, 0)", x.worth(3, 0), 1000000001);
        due("worth(0, -1)", x.worth(0, -1), 1000000001);
        due("count(11)", x.count(11), 3);
        tell(x, times("n00110;", 7));
        due("worth(1, 0) of 9 NEEDS", x.worth(1, 0), 1000000006);
        due("worth(1, 1) of 9 NEEDS", x.worth(1, 1), 1000000001);
        HelpedOnlyOnce y = told("p00,0000;p40,5000;p00,3000;l220;n00110;n00112;");
        due("a GUEST is never SPENT", y.worth(1, 0), 0);
        due("nobody else is worth a thing", y.worth(2, 0), 0);
        HelpedOnlyOnce z = told("p00,0000;p00,5000;l220;n00110;n00112;");
        due("the help is of the YEAR now", z.worth(1, 0), 5);
        z.year();
        due("and of the next", z.worth(1, 0), 5);
        due("two of them", z.most(), 5);
    }

    private static void keeps() {
        of("promise 22");
        HelpedOnlyOnce x = told(EARLY);
        due("keeps(0)", x.keeps(0), 1);
        due("keeps(1)", x.keeps(1), 0);
        due("keeps(2)", x.keeps(2), 0);
        x.set(0, ONE);
        due("keeps(1) by ONE", x.keeps(1), -9);
        due("in mind", x.count(2), 0);
        due("keeps(3)", x.keeps(3), -1);
        due("keeps(-1)", x.keeps(-1), -1);
        HelpedOnlyOnce y = told("p00,0000;p00,1000;p00,2000;p00,2000;n00120;");
        due("of several the least", y.keeps(0), 2);
        tell(y, times("n00110;", 8));
        due("of 9 NEEDS", y.keeps(0), -6);
        due("keeps(4) of 9 NEEDS", y.keeps(4), -1);
        due("count(16)", y.count(16), 1);
        due("count(11)", y.count(11), 1);
    }

    private static void lasts() {
        of("promise 23");
        due("nobody", new HelpedOnlyOnce().lasts(0, 0), -3);
        HelpedOnlyOnce x = told("p00,0001;p00,0001;n00110;");
        due("two by BOTH", x.lasts(NEAR, 0), 0);
        x.set(0, ONE);
        due("two by ONE", x.lasts(NEAR, 0), 1);
        x.set(0, BOTH);
        tell(x, "p00,0001;");
        due("three by BOTH", x.lasts(NEAR, 0), 1);
        due("three by KEEP, who can do it", x.lasts(KEEP, 3), 1);
        due("three by KEEP, nobody can", x.lasts(KEEP, 2), 0);
        due("three by SPARE", x.lasts(SPARE, 2), 1);
        due("three by TOLD", x.lasts(TOLD, 0), 0);
        x.row(1);
        x.row(2);
        x.row(0);
        due("three by TOLD in a ROW", x.lasts(TOLD, 0), 1);
        x.set(0, SMALL);
        x.set(2, 5);
        due("SIZE 5", x.lasts(NEAR, 0), 1);
        x.set(2, 6);
        due("SIZE 6", x.lasts(NEAR, 0), 30);
        x.set(0, YEARS);
        x.set(1, 1);
        due("SPAN 1", x.lasts(NEAR, 0), 30);
        x.set(1, 2);
        due("SPAN 2", x.lasts(NEAR, 0), 1);
        x.set(0, BOTH);
        x.help(1, 0);
        due("with the book as it is", x.lasts(NEAR, 0), 0);
        due("in mind", x.count(2), 1);
        due("NEEDS as they were", x.count(1), 1);
        due("lasts(6, 0)", x.lasts(6, 0), -2);
        due("lasts(6, 4)", x.lasts(6, 4), -2);
        due("lasts(0, 4)", x.lasts(0, 4), -1);
        due("lasts(0, -1)", x.lasts(0, -1), -1);
        due("-1 ahead of -3", new HelpedOnlyOnce().lasts(0, 4), -1);
        HelpedOnlyOnce aside = told("p00,1000;p00,1000;p00,1000;n00910;n00910;n10910;n20910;");
        due("KEEP with NEEDS left aside", aside.lasts(KEEP, 0), 1);
        HelpedOnlyOnce guests = told("p40,0000;p00,0000;");
        due("a GUEST helps always, but is helped once", guests.lasts(NEAR, 0), 1);
        guests.set(0, ONE);
        due("by ONE once", guests.lasts(NEAR, 0), 1);
        due("GUESTS", told("p40,0000;p40,0000;").lasts(NEAR, 0), 30);
        HelpedOnlyOnce late = told("p00,0000;p00,0000;p00,0000;l310;n00510;");
        late.set(0, YEARS);
        years(late, 99);
        due("from YEAR 99", late.lasts(SKILLED, 0), 30);
    }

    private static void many() {
        of("promise 24");
        HelpedOnlyOnce x = new HelpedOnlyOnce();
        due("BOTH", x.many(0, 1), 3);
        due("ONE", x.many(1, 1), 2);
        due("YEARS", x.many(2, 5), 11);
        due("SMALL", x.many(3, 999), 1999);
        due("ONE 999", x.many(1, 999), 1000);
        due("many(4, 1)", x.many(4, 1), -2);
        due("many(-1, 0)", x.many(-1, 0), -2);
        due("many(0, 0)", x.many(0, 0), -4);
        due("many(0, least)", x.many(0, Integer.MIN_VALUE), -4);
        due("many(0, 1000)", x.many(0, 1000), -6);
        due("count(12)", x.count(12), 2);
        due("count(14)", x.count(14), 2);
        due("count(16)", x.count(16), 1);
    }

    private static void move() {
        of("promise 25");
        HelpedOnlyOnce x = told("p050,1111;p01,1111;");
        due("move(0, 99)", x.move(0, 99), 50);
        due("PLACE", x.person(0, 1), 99);
        due("minutes(0, 1)", x.minutes(0, 1), 98);
        due("move(0, 0)", x.move(0, 0), 99);
        due("move(0, 100)", x.move(0, 100), -6);
        due("move(0, -1)", x.move(0, -1), -4);
        due("move(2, 0)", x.move(2, 0), -1);
        due("move(2, -1)", x.move(2, -1), -1);
        due("PLACE still", x.person(0, 1), 0);
        due("the other", x.person(1, 1), 1);
        due("count(11)", x.count(11), 2);
        due("count(14)", x.count(14), 1);
        due("count(16)", x.count(16), 1);
    }

    private static void bestPlace() {
        of("promise 26");
        HelpedOnlyOnce x = told("p035,0000;p09,9000;n00910;");
        due("of 30 and 40 the least", x.bestPlace(1), 30);
        due("of WHO", x.bestPlace(0), 0);
        due("PLACE as it was", x.person(1, 1), 9);
        x.move(0, 99);
        due("as near as 90", x.bestPlace(1), 90);
        x.move(0, 80);
        due("80", x.bestPlace(1), 80);
        HelpedOnlyOnce y = told("p035,0000;p415,9000;n00910;");
        due("the same all over", y.bestPlace(1), 0);
        HelpedOnlyOnce alone = told("p035,0000;p69,4000;n00110;");
        alone.set(3, 9);
        due("without strangers, who would help wherever one lives", alone.bestPlace(1), 30);
        HelpedOnlyOnce z = told("p060,0000;p00,2400;p00,1000;n00510;n01510;");
        due("2 is better than 1 at the first then", z.bestPlace(2), 60);
        due("bestPlace(3)", z.bestPlace(3), -1);
        due("bestPlace(-1)", z.bestPlace(-1), -1);
        due("count(11)", z.count(11), 2);
    }

    private static void strangers() {
        of("promise 27");
        HelpedOnlyOnce x = told("p00,0000;p00,2000;n00530;n00211;");
        due("none", x.strangers(SKILLED), 10);
        x.set(3, 1);
        due("OUT 1", x.strangers(SKILLED), 25);
        x.set(3, 2);
        due("OUT 2", x.strangers(SKILLED), 40);
        x.set(3, 3);
        due("OUT 3", x.strangers(SKILLED), 46);
        x.set(3, 9);
        due("OUT 9", x.strangers(SKILLED), 46);
        due("all by strangers", x.strangers(TOLD), 51);
        due("RUN is without them", x.run(SKILLED), 10);
        due("in mind", x.set(3, 0), 9);
        due("strangers(6)", x.strangers(6), -2);
        due("strangers(-1)", x.strangers(-1), -2);
        due("count(12)", x.count(12), 2);
    }

    private static void smallest() {
        of("promise 28");
        HelpedOnlyOnce x = told("p00,0000;p00,1000;n00210;n00910;");
        due("above GRAVE 2", x.smallest(), 3);
        due("LAW as it was", x.count(7), 0);
        due("SIZE as it was", x.set(2, 3), 3);
        HelpedOnlyOnce y = told("p00,0000;p00,1000;n00810;n00110;");
        due("above GRAVE 8", y.smallest(), 9);
        HelpedOnlyOnce z = told("p00,0000;p00,1000;n00910;n00910;");
        due("the same all over", z.smallest(), 0);
        z.help(1, 0);
        due("nothing to be had", z.smallest(), 0);
    }

    private static void byLaw() {
        of("promise 29");
        HelpedOnlyOnce x = told("p00,1000;p00,1000;n00210;n10310;n00412;");
        due("BOTH", x.byLaw(BOTH, NEAR), 2);
        due("ONE", x.byLaw(ONE, NEAR), 5);
        due("YEARS, SPAN 3", x.byLaw(YEARS, NEAR), 2);
        due("SMALL, SIZE 3", x.byLaw(SMALL, NEAR), 5);
        x.set(1, 2);
        x.set(2, 4);
        due("YEARS, SPAN 2", x.byLaw(YEARS, NEAR), 6);
        due("SMALL, SIZE 4", x.byLaw(SMALL, NEAR), 9);
        due("another RULE", x.byLaw(SMALL, TOLD), 0);
        due("LAW as it was", x.count(7), 0);
        due("RUN by the LAW", x.run(NEAR), 2);
        due("byLaw(4, 0)", x.byLaw(4, 0), -2);
        due("byLaw(0, 6)", x.byLaw(0, 6), -2);
        due("byLaw(-1, -1)", x.byLaw(-1, -1), -2);
        due("count(12)", x.count(12), 3);
    }

    private static void seeds() {
        of("promise 30");
        // DRAWS of seed 1: 16838 5758 10113, 17515 31051 5627, 23010 7419 16212
        HelpedOnlyOnce x = told("p00,1234;p00,1234;n00910;");
        due("BOTH", x.seeds(NEAR, 1, 1), 21);
        x.set(0, ONE);
        due("ONE", x.seeds(NEAR, 1, 1), 33);
        x.set(0, SMALL);
        x.set(2, 9);
        due("SMALL", x.seeds(NEAR, 1, 1), 49);
        due("TOLD nobody", x.seeds(TOLD, 1, 1), 0);
        due("KIN nobody", x.seeds(KIN, 1, 1), 0);
        due("in mind", x.count(2), 0);
        due("NEEDS as they were", x.need(0, 2), 9);
        due("YEAR as it was", x.count(4), 0);
        // of YEAR 1: 4086 2749 12767, 9084 12060 32225, 17543 25089 21183
        x.set(0, YEARS);
        x.set(1, 1);
        due("YEARS, two of them", x.seeds(NEAR, 2, 1), 21 + 2 * (1 + 12767 % 9));
        x.set(1, 2);
        due("YEARS, SPAN 2", x.seeds(NEAR, 2, 1), 21);
        due("below 1", x.seeds(NEAR, 0, 1), -4);
        due("above 10", x.seeds(NEAR, 11, 1), -6);
        due("seeds(6, 0, 0)", x.seeds(6, 0, 0), -2);
        due("seeds(-1, 11, 0)", x.seeds(-1, 11, 0), -2);
        HelpedOnlyOnce none = new HelpedOnlyOnce();
        due("nobody", none.seeds(0, 1, 1), -3);
        due("nobody and below", none.seeds(0, 0, 1), -4);
        due("nobody and above", none.seeds(0, 11, 1), -6);
        due("count(13)", none.count(13), 1);
        HelpedOnlyOnce guests = told("p40,1111;p40,1111;");
        // -2147483648 becomes -2147471303: without its sign's bit 12345, over 65536: 0
        int z = Integer.MIN_VALUE;
        int sum = 0;
        for (int i = 0; i < 30; i++) {
            for (int k = 0; k < 3; k++) {
                z = z * 1103515245 + 12345;
            }
            sum += 1 + (z & 0x7fffffff) / 65536 % 9;
        }
        due("GRAVES of 30", guests.seeds(SKILLED, 10, Integer.MIN_VALUE), sum);
    }

    private static void row() {
        of("promise 31");
        HelpedOnlyOnce x = told("p00,1111;p00,1111;");
        due("row(2)", x.row(2), -1);
        due("row(-1)", x.row(-1), -1);
        for (int i = 1; i <= 10; i++) {
            due("row", x.row(i % 2), i);
        }
        due("row full", x.row(0), -6);
        due("nobody ahead of full", x.row(2), -1);
        due("count(6)", x.count(6), 10);
        due("count(11)", x.count(11), 3);
        due("count(16)", x.count(16), 1);
    }

    private static void judge() {
        of("promise 32");
        due("nothing at all", judged(new HelpedOnlyOnce()), -9);
        HelpedOnlyOnce x = told("p00,1111;p00,1111;p00,1111;p430,1111;n00120;n00111;n10120;n30110;");
        due("all MAY", judged(x, 1, 2, 2, 3, 0), -9);
        due("too short", judged(x, 1, 2, 2), 3);
        due("none", judged(x), 0);
        due("too long", judged(x, 1, 2, 2, 3, 0, 0), 5);
        due("back to a GUEST", judged(x, 1, 2, 2, 3, 1, 0), 4);
        due("itself", judged(x, 0), 0);
        due("twice with one NEED", judged(x, 3, 3, 2), 1);
        due("SPENT in mind", judged(x, 1, 2, 0), 2);
        due("a GUEST the other way, SPENT", judged(x, 1, 3, 2, 3, 0), 4);
        due("the last", judged(x, 1, 2, 2, 3, 3), 4);
        due("wrong ahead of too long", judged(x, 1, 2, 2, 3, 3, 3), 4);
        due("in mind", x.count(2), 0);
        x.help(1, 0);
        due("HANDS that are left", judged(x, 2, 2, 3, 0), -9);
        x.year();
        due("of this YEAR", judged(x, 2), -9);
        x.year();
        due("no OPEN NEEDS", judged(x, 2), 0);
        HelpedOnlyOnce y = told("p00,1111;p00,1111;n00120;");
        y.image();
        tell(y, "p00,1111;");
        y.row(1);
        y.row(2);
        y.restore();
        due("one who is not there any more", y.judge(), 1);
    }

    private static void clear() {
        of("promise 33");
        HelpedOnlyOnce x = told("p00,1111;p00,1111;n00110;");
        due("clear() of nothing", x.clear(), 0);
        x.row(1);
        x.row(0);
        due("clear()", x.clear(), 2);
        due("count(6)", x.count(6), 0);
        due("nobody TOLD", x.chosen(TOLD, 0), -9);
        due("row(1)", x.row(1), 1);
        due("clear() again", x.clear(), 1);
    }

    private static void image() {
        of("promise 34");
        HelpedOnlyOnce x = told(EARLY);
        due("image()", x.image(), 0);
        years(x, 7);
        due("image() in YEAR 7", x.image(), 7);
        years(x, 2);
        due("the later one stands", x.restore(), 7);
        due("nothing changes", x.count(0), 3);
    }

    private static void restore() {
        of("promise 35");
        HelpedOnlyOnce x = told("p01,1111;p02,1111;l245;n00120;");
        due("there is none", x.restore(), -3);
        x.set(3, 6);
        x.help(1, 0);
        x.image();
        tell(x, "p03,1111;n00130;l019;");
        x.set(3, 1);
        x.move(0, 77);
        x.help(2, 0);
        x.year();
        x.row(2);
        x.row(0);
        x.feed('l');
        x.person(9, 0);
        due("restore()", x.restore(), 0);
        due("PEOPLE", x.count(0), 2);
        due("NEEDS", x.count(1), 1);
        due("book", x.count(2), 1);
        due("YEAR", x.count(4), 0);
        due("PLACE", x.person(0, 1), 1);
        due("have helped", x.need(0, 5), 1);
        due("LAW", x.set(0, 0), 2);
        due("SPAN", x.set(1, 1), 4);
        due("SIZE", x.set(2, 1), 5);
        due("OUT", x.set(3, 1), 6);
        due("letters stay", x.count(5), 1);
        due("the ROW stays", x.count(6), 2);
        due("REFUSALS stay", x.count(11), 1);
        due("REFUSAL of restore() stays", x.count(13), 1);
        due("SPENT as it was", x.spent(1, 0), 1);
        x.back();
        due("once more", x.restore(), 0);
        due("book again", x.count(2), 1);
        due("LAW again", x.count(7), 2);
        due("TOLD with one who is not there", x.chosen(TOLD, 0), -9);
        due("have helped again", x.need(0, 5), 1);
        due("back() of the book", x.back(), 0);
        due("free again", x.help(1, 0), 1);
    }

    private static void count() {
        of("promise 36");
        HelpedOnlyOnce x = told("p00,1111;p00,1111;p00,1111;l310;n00110;n00120;n00111;n20110;");
        x.help(1, 0);
        x.help(2, 1);
        x.feed('p');
        x.row(1);
        x.row(1);
        int[] want = {3, 4, 2, 2, 0, 1, 2, 3};
        for (int what = 0; what < want.length; what++) {
            due("count(" + what + ")", x.count(what), want[what]);
        }
        due("the only NEED is OPEN", told("p00,1111;n00110;").count(3), 1);
        x.year();
        due("OPEN a YEAR on", x.count(3), 1);
        due("the YEAR", x.count(4), 1);
        for (int what : new int[] {-1, 8, 9, 10, 17, 18, Integer.MAX_VALUE, Integer.MIN_VALUE}) {
            due("count(" + what + ")", x.count(what), -9);
        }
        for (int what = 11; what <= 16; what++) {
            due("count(" + what + ")", x.count(what), 0);
        }
        refuseEach(x);
        int[] refused = {1, 2, 3, 4, 0, 5};
        for (int what = 11; what <= 16; what++) {
            due("count(" + what + ")", x.count(what), refused[what - 11]);
        }
    }

    private static void refuseEach(HelpedOnlyOnce x) {
        x.worth(0, 0);
        for (int i = 0; i < 2; i++) {
            x.gap(6);
        }
        for (int i = 0; i < 3; i++) {
            x.restore();
        }
        for (int i = 0; i < 4; i++) {
            x.many(0, 0);
        }
        for (int i = 0; i < 5; i++) {
            x.feed(256);
        }
    }
}
