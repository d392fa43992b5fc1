import java.util.function.IntUnaryOperator;

/** Promise by promise: the last value that is taken and the first that is refused, and which refusal comes first. */
public final class BoundaryCallsTest extends Check {
    private static final int NO_ONE_FAR = 1000000001;
    private static final int OTHER_FAR = 1000000002;
    private static final int ROOM_FAR = 1000000006;

    public static void main(String[] args) {
        newObject();
        feed();
        feedFull();
        town();
        person();
        need();
        set();
        setBefore();
        minutes();
        spent();
        may();
        good();
        help();
        helpMayNot();
        back();
        year();
        chosen();
        loss();
        run();
        without();
        mostAndFirst();
        gap();
        worth();
        keeps();
        lasts();
        many();
        move();
        bestPlace();
        strangers();
        smallest();
        byLaw();
        seeds();
        row();
        judge();
        clear();
        image();
        restore();
        imageHolds();
        imageOfTheBook();
        countOthers();
        countRefusals();
        lastOf512Calls();
        end("BoundaryCallsTest");
    }

    // three of PEOPLE who may help each other, four NEEDS
    private static HelpedOnlyOnce three() {
        return told("p00,1111;p010,2222;p420,3333;n00520;n10311;n20110;n00910;");
    }

    // an argument that is taken from the least to the greatest, and refused at once beyond them
    private static void ends(String call, IntUnaryOperator f, int least, int greatest, int below, int above) {
        for (int v : new int[] {LEAST, LEAST + 1, least - 256, least - 2, least - 1}) {
            due(call + " of " + v, f.applyAsInt(v), below);
        }
        for (int v : new int[] {greatest + 1, greatest + 2, greatest + 256, 65536, GREATEST - 1, GREATEST}) {
            due(call + " of " + v, f.applyAsInt(v), above);
        }
        for (int v = least; v <= greatest; v++) {
            int got = f.applyAsInt(v);
            boolean refused = got >= -6 && got <= -1 || got > NO_ONE_FAR - 1 && got <= ROOM_FAR;
            due(call + " of " + v + " is refused", refused ? 1 : 0, 0);
        }
    }

    private static void index(String call, IntUnaryOperator f, int many, int refused) {
        ends(call, f, 0, many - 1, refused, refused);
    }

    private static void newObject() {
        of("promise 1: Nobody, no NEEDS");
        HelpedOnlyOnce x = new HelpedOnlyOnce();
        int[] want = {0, 0, 0, 0, 0, 0, 0, 0};
        for (int what = 0; what < want.length; what++) {
            due("count(" + what + ")", x.count(what), want[what]);
        }
        due("person(0, 0)", x.person(0, 0), -1);
        due("need(0, 0)", x.need(0, 0), -1);
        due("minutes(0, 0)", x.minutes(0, 0), -1);
        due("may(0, 0)", x.may(0, 0), -1);
        due("spent(0, 1)", x.spent(0, 1), -1);
        due("good(0, 0)", x.good(0, 0), -1);
        due("help(0, 0)", x.help(0, 0), -1);
        due("chosen(0, 0)", x.chosen(0, 0), -1);
        due("loss(0, 0)", x.loss(0, 0), -1);
        due("worth(0, 1)", x.worth(0, 1), NO_ONE_FAR);
        due("keeps(0)", x.keeps(0), -1);
        due("move(0, 0)", x.move(0, 0), -1);
        due("bestPlace(0)", x.bestPlace(0), -1);
        due("row(0)", x.row(0), -1);
        due("count(11)", x.count(11), 14);
        for (int rule = NEAR; rule <= TOLD; rule++) {
            due("run", x.run(rule), 0);
            due("without", x.without(rule), 0);
            due("gap", x.gap(rule), 0);
            due("strangers", x.strangers(rule), 0);
            due("byLaw", x.byLaw(ONE, rule), 0);
            due("lasts", x.lasts(rule, 0), -3);
            due("seeds", x.seeds(rule, 1, 1), -3);
        }
        due("back()", x.back(), -3);
        due("restore()", x.restore(), -3);
        due("count(13)", x.count(13), 14);
        due("most()", x.most(), 0);
        due("first()", x.first(), -9);
        due("smallest()", x.smallest(), 0);
        due("clear()", x.clear(), 0);
        due("judge()", x.judge(), -9);
        due("town()", x.town(), -1000);
        due("image()", x.image(), 0);
    }

    private static void feed() {
        of("promise 2: -4; -6 (255)");
        for (int from = 0; from < 256; from += 64) {
            HelpedOnlyOnce x = new HelpedOnlyOnce();
            for (int letter = from; letter < from + 64; letter++) {
                due("feed(" + letter + ")", x.feed(letter), letter - from + 1);
            }
        }
        HelpedOnlyOnce x = new HelpedOnlyOnce();
        int[] below = {LEAST, -256, -255, -2, -1};
        int[] above = {256, 257, 511, 65536 + 'p', GREATEST};
        for (int i = 0; i < below.length; i++) {
            due("feed(" + below[i] + ")", x.feed(below[i]), -4);
            due("feed(" + above[i] + ")", x.feed(above[i]), -6);
        }
        due("no letter came", x.count(5), 0);
        due("count(14)", x.count(14), 5);
        due("count(16)", x.count(16), 5);
        due("the first", x.feed(255), 1);
    }

    private static void feedFull() {
        of("promise 2: how many there are; -6 (64, too)");
        HelpedOnlyOnce x = new HelpedOnlyOnce();
        feedOnly(x, times("p01,1111;", 7));
        due("count(5)", x.count(5), 63);
        due("the 64th", x.feed(0), 64);
        due("the 65th", x.feed(0), -6);
        due("the 65th, as right as any", x.feed('p'), -6);
        due("-4 comes first", x.feed(-1), -4);
        due("-6 twice over", x.feed(256), -6);
        due("count(5)", x.count(5), 64);
        due("count(14)", x.count(14), 1);
        due("count(16)", x.count(16), 3);
        due("the 64th is as it was", x.town(), -1063);
        due("count(5)", x.count(5), 0);
        for (int i = 1; i <= 64; i++) {
            due("64 again", x.feed('p'), i);
        }
        due("full again", x.feed('p'), -6);
    }

    private static void town() {
        of("promise 3: The letters, which are no more then (with a FAULT neither)");
        HelpedOnlyOnce x = new HelpedOnlyOnce();
        String[] texts = {"p01,1111;", "p", "x", "p81,1111;", "n90110;", "l033;l033;"};
        int[] want = {1, -1001, -1000, -2000, -2000, 2};
        for (int i = 0; i < texts.length; i++) {
            due("town of " + texts[i], feedAll(x, texts[i]), want[i]);
            due("count(5)", x.count(5), 0);
            due("town of none then", x.town(), -1000);
        }
        of("promise 3: the FAULT (nothing is counted)");
        for (int what = 11; what <= 16; what++) {
            due("count(" + what + ")", x.count(what), 0);
        }
        due("count(0)", x.count(0), 1);
        due("count(1)", x.count(1), 0);
    }

    private static void person() {
        of("promise 4: -1; -2");
        HelpedOnlyOnce x = three();
        index("person(.., 0)", one -> x.person(one, 0), 3, -1);
        index("person(2, ..)", what -> x.person(2, what), 6, -2);
        due("person(3, 6): -1 first", x.person(3, 6), -1);
        due("person(-1, -1): -1 first", x.person(-1, -1), -1);
        HelpedOnlyOnce seven = told(times("p00,1111;", 7));
        index("person(.., 5) of seven", one -> seven.person(one, 5), 7, -1);
    }

    private static void need() {
        of("promise 5: -1; -2");
        HelpedOnlyOnce x = three();
        index("need(.., 0)", need -> x.need(need, 0), 4, -1);
        index("need(3, ..)", what -> x.need(3, what), 6, -2);
        due("need(4, 6): -1 first", x.need(4, 6), -1);
        due("need(-1, -1): -1 first", x.need(-1, -1), -1);
        HelpedOnlyOnce twelve = told("p00,1111;" + times("n00110;", 12));
        index("need(.., 5) of twelve", need -> twelve.need(need, 5), 12, -1);
        of("promise 5: how many have helped (5)");
        due("none", x.need(0, 5), 0);
        x.help(1, 0);
        due("one", x.need(0, 5), 1);
        x.help(2, 0);
        due("as many as HANDS", x.need(0, 5), 2);
        x.back();
        due("one again", x.need(0, 5), 1);
        x.year();
        due("a YEAR on", x.need(0, 5), 1);
    }

    private static void set() {
        of("promise 6: -2; -4; -6");
        HelpedOnlyOnce x = new HelpedOnlyOnce();
        index("set(.., 1)", what -> x.set(what, 1), 4, -2);
        ends("set(LAW, ..)", v -> x.set(LAW, v), 0, 3, -4, -6);
        ends("set(SPAN, ..)", v -> x.set(SPAN, v), 1, 9, -4, -6);
        ends("set(SIZE, ..)", v -> x.set(SIZE, v), 0, 9, -4, -6);
        ends("set(OUT, ..)", v -> x.set(OUT, v), 0, 9, -4, -6);
        due("set(4, -1): -2 first", x.set(4, -1), -2);
        due("set(4, 10): -2 first", x.set(4, 10), -2);
        due("set(-1, -1): -2 first", x.set(-1, -1), -2);
        due("set(-1, 10): -2 first", x.set(-1, 10), -2);
        due("LAW", x.set(LAW, 0), 3);
        due("SPAN", x.set(SPAN, 3), 9);
        due("SIZE", x.set(SIZE, 3), 9);
        due("OUT", x.set(OUT, 0), 9);
    }

    private static void setBefore() {
        of("promise 6: what it was");
        HelpedOnlyOnce x = new HelpedOnlyOnce();
        int[] was = {0, 3, 3, 0};
        for (int v = 1; v <= 3; v++) {
            for (int what = 0; what < 4; what++) {
                due("set(" + what + ", " + v + ")", x.set(what, v), was[what]);
                due("refused", x.set(what, 10), -6);
                due("refused", x.set(what, -1), -4);
                was[what] = v;
            }
        }
        for (int what = 0; what < 4; what++) {
            due("each by itself", setting(x, what), 3);
        }
    }

    private static void minutes() {
        of("promise 7: -1 either");
        HelpedOnlyOnce x = three();
        index("minutes(.., 0)", one -> x.minutes(one, 0), 3, -1);
        index("minutes(0, ..)", other -> x.minutes(0, other), 3, -1);
        due("minutes(3, 3)", x.minutes(3, 3), -1);
        of("promise 7: Minutes between two");
        HelpedOnlyOnce far = told("p00,1111;p099,1111;p098,1111;");
        due("least", far.minutes(1, 1), 0);
        due("one", far.minutes(1, 2), 1);
        due("one, the other way", far.minutes(2, 1), 1);
        due("greatest", far.minutes(0, 1), 99);
        due("greatest, the other way", far.minutes(1, 0), 99);
    }

    private static void spent() {
        of("promise 8: -1 either (one twice, too)");
        HelpedOnlyOnce x = three();
        for (int one = 0; one < 3; one++) {
            due("spent(" + one + ", " + one + ")", x.spent(one, one), -1);
        }
        due("spent(0, 1)", x.spent(0, 1), 0);
        due("spent(2, 0)", x.spent(2, 0), 0);
        for (int v : new int[] {LEAST, -2, -1, 3, 4, GREATEST}) {
            due("spent(" + v + ", 0)", x.spent(v, 0), -1);
            due("spent(0, " + v + ")", x.spent(0, v), -1);
            due("spent(" + v + ", " + v + ")", x.spent(v, v), -1);
        }
        due("count(11)", x.count(11), 3 + 18);
    }

    private static void may() {
        of("promise 9: 1, 0 (itself 0). -1 either");
        HelpedOnlyOnce x = three();
        index("may(.., 0)", one -> x.may(one, 0), 3, -1);
        index("may(0, ..)", other -> x.may(0, other), 3, -1);
        for (int one = 0; one < 3; one++) {
            for (int other = 0; other < 3; other++) {
                due("may(" + one + ", " + other + ")", x.may(one, other), one == other ? 0 : 1);
            }
        }
        due("may(3, 3): no such one", x.may(3, 3), -1);
        due("may(-1, -1): no such one", x.may(-1, -1), -1);
    }

    private static void good() {
        of("promise 10: -1 either");
        HelpedOnlyOnce x = three();
        index("good(.., 0)", one -> x.good(one, 0), 3, -1);
        index("good(0, ..)", need -> x.good(0, need), 4, -1);
        due("good(3, 4)", x.good(3, 4), -1);
        due("of WHO itself", x.good(0, 0), 5);
        due("of a later YEAR", x.good(0, 1), 2);
        x.help(1, 0);
        due("of one who is SPENT", x.good(1, 0), 9);
    }

    private static void help() {
        of("promise 11: -1 either; -3 it MAY not");
        HelpedOnlyOnce x = three();
        for (int v : new int[] {LEAST, -2, -1, 3, 4, GREATEST}) {
            due("help(" + v + ", 0)", x.help(v, 0), -1);
            due("help(" + v + ", 1): -1 first, though it is of a later YEAR", x.help(v, 1), -1);
        }
        for (int v : new int[] {LEAST, -2, -1, 4, 5, GREATEST}) {
            due("help(1, " + v + ")", x.help(1, v), -1);
        }
        due("count(2)", x.count(2), 0);
        due("count(11)", x.count(11), 18);
        due("the last of PEOPLE, the last NEED", x.help(2, 3), 27);
        due("the first of PEOPLE", x.help(0, 2), -3);
        due("another for it", x.help(1, 2), 1);
        due("the second of PEOPLE, the first NEED", x.help(1, 0), 9);
        due("count(2)", x.count(2), 3);
    }

    private static void helpMayNot() {
        of("promise 11: -3 it MAY not");
        HelpedOnlyOnce x = told("p00,1111;p00,2222;p421,3333;p621,4444;n00520;n00511;n10110;n20110;n00310;");
        due("itself", x.help(0, 0), -3);
        due("of a later YEAR", x.help(1, 1), -3);
        due("a SHY one 21 minutes off", x.help(3, 0), -3);
        due("none came", x.count(2), 0);
        due("one who MAY", x.help(1, 0), 10);
        due("SPENT", x.help(1, 4), -3);
        due("SPENT the other way", x.help(0, 2), -3);
        due("one who MAY", x.help(2, 0), 15);
        due("all HANDS", x.help(2, 0), -3);
        due("a GUEST's other NEED", x.help(2, 4), 9);
        due("to a GUEST who is SPENT", x.help(0, 3), -3);
        due("count(2)", x.count(2), 3);
        due("count(13)", x.count(13), 7);
        x.year();
        due("of a YEAR that was", x.help(2, 2), -3);
    }

    private static void back() {
        of("promise 12: how many are left. -3 there is none");
        HelpedOnlyOnce x = told("p00,0000;p40,1000;p40,1000;p40,1000;" + times("n00130;", 12));
        due("none", x.back(), -3);
        int helps = 0;
        for (int need = 0; need < 12; need++) {
            for (int helper = 1; helper <= 3; helper++) {
                due("help", x.help(helper, need), 1);
                helps++;
                due("count(2)", x.count(2), helps);
            }
        }
        due("as many as ever can be", x.count(2), 36);
        for (int left = 35; left >= 0; left--) {
            due("back()", x.back(), left);
            due("its NEED", x.need(left / 3, 5), left % 3);
        }
        due("none again", x.back(), -3);
        due("count(2)", x.count(2), 0);
        due("count(13)", x.count(13), 2);
        due("and help again", x.help(1, 0), 1);
        of("promise 12: The latest help in the book is taken back");
        HelpedOnlyOnce y = three();
        y.help(1, 0);
        y.year();
        y.help(2, 1);
        due("of YEAR 1", y.back(), 1);
        due("its NEED", y.need(1, 5), 0);
        due("of YEAR 0, in YEAR 1", y.back(), 0);
        due("its NEED", y.need(0, 5), 0);
        due("not SPENT", y.spent(0, 1), 0);
    }

    private static void year() {
        of("promise 13: the YEAR. -6 it is 99");
        HelpedOnlyOnce x = three();
        for (int year = 1; year <= 99; year++) {
            due("year()", x.year(), year);
        }
        due("beyond", x.year(), -6);
        due("beyond again", x.year(), -6);
        due("count(4)", x.count(4), 99);
        due("count(16)", x.count(16), 2);
        due("image()", x.image(), 99);
        due("restore()", x.restore(), 99);
        due("beyond still", x.year(), -6);
        due("a NEED of no YEAR to come", x.chosen(NEAR, 0), -9);
        due("run(NEAR)", x.run(NEAR), 0);
    }

    private static void chosen() {
        of("promise 14: -2; -1");
        HelpedOnlyOnce x = three();
        index("chosen(.., 0)", rule -> x.chosen(rule, 0), 6, -2);
        index("chosen(0, ..)", need -> x.chosen(NEAR, need), 4, -1);
        index("chosen(5, ..)", need -> x.chosen(TOLD, need), 4, -1);
        due("chosen(6, 4): -2 first", x.chosen(6, 4), -2);
        due("chosen(-1, -1): -2 first", x.chosen(-1, -1), -2);
    }

    private static void loss() {
        of("promise 15: -1 either");
        HelpedOnlyOnce x = three();
        index("loss(.., 0)", one -> x.loss(one, 0), 3, -1);
        index("loss(0, ..)", need -> x.loss(0, need), 4, -1);
        due("loss(3, 4)", x.loss(3, 4), -1);
    }

    private static void run() {
        of("promise 16: -2");
        HelpedOnlyOnce x = three();
        index("run(..)", x::run, 6, -2);
        due("count(12)", x.count(12), 11);
    }

    private static void without() {
        of("promise 17: -2");
        HelpedOnlyOnce x = three();
        index("without(..)", x::without, 6, -2);
        due("count(12)", x.count(12), 11);
    }

    private static HelpedOnlyOnce nine() {
        return told("p00,1111;p410,2222;" + times("n00110;", 9));
    }

    private static void mostAndFirst() {
        of("promises 18, 19: -6; -9 nobody, no HANDS");
        HelpedOnlyOnce x = nine();
        due("most()", x.most(), -6);
        due("first()", x.first(), -6);
        due("count(16)", x.count(16), 2);
        x.year();
        due("most()", x.most(), 0);
        due("first(): no HANDS", x.first(), -9);
        due("count(16)", x.count(16), 2);
    }

    private static void gap() {
        of("promise 20: -2; -6 likewise; 1000000000 less them");
        HelpedOnlyOnce x = three();
        index("gap(..)", x::gap, 6, OTHER_FAR);
        due("count(12)", x.count(12), 11);
        HelpedOnlyOnce y = nine();
        index("gap(..) of 9 NEEDS: -2 first", rule -> y.gap(rule) == ROOM_FAR ? 0 : y.gap(rule), 6, OTHER_FAR);
        due("gap(0)", y.gap(0), ROOM_FAR);
        due("count(16)", y.count(16), 7);
    }

    private static void worth() {
        of("promise 21: -1 either (one twice, too); -6 likewise");
        HelpedOnlyOnce x = three();
        for (int v : new int[] {LEAST, -2, -1, 3, 4, GREATEST}) {
            due("worth(" + v + ", 0)", x.worth(v, 0), NO_ONE_FAR);
            due("worth(0, " + v + ")", x.worth(0, v), NO_ONE_FAR);
            due("worth(" + v + ", " + v + ")", x.worth(v, v), NO_ONE_FAR);
        }
        for (int one = 0; one < 3; one++) {
            due("worth(" + one + ", " + one + ")", x.worth(one, one), NO_ONE_FAR);
        }
        due("count(11)", x.count(11), 21);
        due("the last of PEOPLE, a GUEST", x.worth(2, 0), 0);
        due("count(11)", x.count(11), 21);
        HelpedOnlyOnce y = nine();
        due("worth(0, 0) of 9 NEEDS: -1 first", y.worth(0, 0), NO_ONE_FAR);
        due("worth(2, 0) of 9 NEEDS: -1 first", y.worth(2, 0), NO_ONE_FAR);
        due("worth(0, 2) of 9 NEEDS: -1 first", y.worth(0, 2), NO_ONE_FAR);
        due("worth(1, 0) of 9 NEEDS", y.worth(1, 0), ROOM_FAR);
        due("count(11)", y.count(11), 3);
        due("count(16)", y.count(16), 1);
    }

    private static void keeps() {
        of("promise 22: -1; -6 likewise");
        HelpedOnlyOnce x = three();
        index("keeps(..)", x::keeps, 3, -1);
        HelpedOnlyOnce y = nine();
        due("keeps(2) of 9 NEEDS: -1 first", y.keeps(2), -1);
        due("keeps(-1) of 9 NEEDS: -1 first", y.keeps(-1), -1);
        due("keeps(1) of 9 NEEDS", y.keeps(1), -6);
        due("count(16)", y.count(16), 1);
    }

    private static void lasts() {
        of("promise 23: -2; -1 HELP; -3 nobody");
        HelpedOnlyOnce x = three();
        index("lasts(.., 0)", rule -> x.lasts(rule, 0), 6, -2);
        index("lasts(0, ..)", help -> x.lasts(0, help), 4, -1);
        due("lasts(6, 4): -2 first", x.lasts(6, 4), -2);
        HelpedOnlyOnce none = new HelpedOnlyOnce();
        due("lasts(-1, -1) of nobody: -2 first", none.lasts(-1, -1), -2);
        due("lasts(6, 0) of nobody: -2 first", none.lasts(6, 0), -2);
        due("lasts(5, 4) of nobody: -1 first", none.lasts(5, 4), -1);
        due("lasts(0, -1) of nobody: -1 first", none.lasts(0, -1), -1);
        due("lasts(0, 0) of nobody", none.lasts(0, 0), -3);
        due("lasts(5, 3) of nobody", none.lasts(5, 3), -3);
        tell(none, "p00,0000;");
        due("of one", none.lasts(0, 0), 0);
        due("count(13)", none.count(13), 2);
    }

    private static void many() {
        of("promise 24: -2; -4 below 1; -6 999");
        HelpedOnlyOnce x = new HelpedOnlyOnce();
        index("many(.., 1)", law -> x.many(law, 1), 4, -2);
        int[] far = {LEAST, -1, 0, 1000, 1001, GREATEST};
        for (int law = 0; law <= 3; law++) {
            for (int n : far) {
                due("many(" + law + ", " + n + ")", x.many(law, n), n < 1 ? -4 : -6);
            }
            due("many(" + law + ", 1)", x.many(law, 1), law == ONE ? 2 : 3);
            due("many(" + law + ", 999)", x.many(law, 999), law == ONE ? 1000 : 1999);
        }
        for (int n : far) {
            due("many(4, " + n + "): -2 first", x.many(4, n), -2);
            due("many(-1, " + n + "): -2 first", x.many(-1, n), -2);
        }
    }

    private static void move() {
        of("promise 25: the PLACE it was at. -1; -4; -6 99");
        HelpedOnlyOnce x = three();
        index("move(.., 5)", one -> x.move(one, 5), 3, -1);
        ends("move(0, ..)", place -> x.move(0, place), 0, 99, -4, -6);
        due("the last PLACE is that of the last that was taken", x.person(0, 1), 99);
        due("move(3, -1): -1 first", x.move(3, -1), -1);
        due("move(-1, 100): -1 first", x.move(-1, 100), -1);
        due("to where it is", x.move(0, 99), 99);
        due("to 0", x.move(0, 0), 99);
        due("refused", x.move(0, 100), -6);
        due("refused", x.move(0, -1), -4);
        due("to 99", x.move(0, 99), 0);
        due("another is where it was", x.move(1, 7), 5);
    }

    private static void bestPlace() {
        of("promise 26: -1");
        HelpedOnlyOnce x = three();
        index("bestPlace(..)", x::bestPlace, 3, -1);
        due("count(11)", x.count(11), 11);
    }

    private static void strangers() {
        of("promise 27: -2");
        HelpedOnlyOnce x = three();
        index("strangers(..)", x::strangers, 6, -2);
        due("count(12)", x.count(12), 11);
    }

    private static void smallest() {
        of("promise 28: SMALLEST");
        due("nobody", new HelpedOnlyOnce().smallest(), 0);
        HelpedOnlyOnce x = three();
        for (int what = 11; what <= 16; what++) {
            x.smallest();
            due("count(" + what + ")", x.count(what), 0);
        }
    }

    private static void byLaw() {
        of("promise 29: -2 either");
        HelpedOnlyOnce x = three();
        index("byLaw(.., 0)", law -> x.byLaw(law, 0), 4, -2);
        index("byLaw(0, ..)", rule -> x.byLaw(0, rule), 6, -2);
        due("byLaw(4, 6)", x.byLaw(4, 6), -2);
        due("byLaw(-1, -1)", x.byLaw(-1, -1), -2);
        due("count(12)", x.count(12), 24);
    }

    private static void seeds() {
        of("promise 30: -2; -4; -6 10; -3 nobody");
        HelpedOnlyOnce x = three();
        index("seeds(.., 1, 1)", rule -> x.seeds(rule, 1, 1), 6, -2);
        ends("seeds(0, .., 1)", n -> x.seeds(0, n, 1), 1, 10, -4, -6);
        for (int z : new int[] {LEAST, -1, 0, 1, GREATEST}) {
            due("any seed: " + z, x.seeds(SKILLED, 10, z) >= 0 ? 1 : 0, 1);
            due("seeds(6, 0, " + z + "): -2 first", x.seeds(6, 0, z), -2);
            due("seeds(-1, 11, " + z + "): -2 first", x.seeds(-1, 11, z), -2);
        }
        HelpedOnlyOnce none = new HelpedOnlyOnce();
        due("seeds(6, 0, 0) of nobody: -2 first", none.seeds(6, 0, 0), -2);
        due("seeds(0, 0, 0) of nobody: -4 first", none.seeds(0, 0, 0), -4);
        due("seeds(0, 11, 0) of nobody: -6 first", none.seeds(0, 11, 0), -6);
        due("seeds(0, 1, 0) of nobody", none.seeds(0, 1, 0), -3);
        due("seeds(5, 10, 0) of nobody", none.seeds(5, 10, 0), -3);
        tell(none, "p09,9999;");
        due("of one", none.seeds(0, 1, 0), 0);
        due("count(13)", none.count(13), 2);
    }

    private static void row() {
        of("promise 31: how many. -1; -6 10");
        HelpedOnlyOnce x = three();
        for (int v : new int[] {LEAST, -2, -1, 3, 4, GREATEST}) {
            due("row(" + v + ")", x.row(v), -1);
        }
        for (int i = 1; i <= 10; i++) {
            due("row(" + i % 3 + ")", x.row(i % 3), i);
        }
        for (int one = 0; one < 3; one++) {
            due("an eleventh", x.row(one), -6);
        }
        due("row(3) of ten: -1 first", x.row(3), -1);
        due("row(-1) of ten: -1 first", x.row(-1), -1);
        due("count(6)", x.count(6), 10);
        due("count(11)", x.count(11), 8);
        due("count(16)", x.count(16), 3);
        due("clear()", x.clear(), 10);
        due("one again", x.row(0), 1);
    }

    private static void judge() {
        of("promise 32: whichever it answers, the ROW has none then");
        HelpedOnlyOnce x = told("p00,0000;p00,0000;n00110;");
        due("-9", judged(x, 1), -9);
        due("one who MAY not", judged(x, 0), 0);
        due("too short", judged(x), 0);
        due("too long", judged(x, 1, 1), 1);
        due("clear() of none", x.clear(), 0);
        due("nobody is refused for that", x.count(13), 0);
    }

    private static void clear() {
        of("promise 33: The ROW has none then: how many it had");
        HelpedOnlyOnce x = three();
        for (int many = 0; many <= 10; many++) {
            for (int i = 0; i < many; i++) {
                x.row(1);
            }
            due("clear() of " + many, x.clear(), many);
            due("count(6)", x.count(6), 0);
            due("clear() again", x.clear(), 0);
        }
        due("nobody TOLD", x.chosen(TOLD, 0), -9);
    }

    private static void image() {
        of("promise 34: THE IMAGE is taken: the YEAR");
        HelpedOnlyOnce none = new HelpedOnlyOnce();
        due("of nobody", none.image(), 0);
        tell(none, "p00,0000;n00110;");
        none.year();
        due("back to nobody", none.restore(), 0);
        due("count(0)", none.count(0), 0);
        due("count(1)", none.count(1), 0);
        HelpedOnlyOnce x = three();
        for (int year = 0; year <= 9; year++) {
            due("image() in YEAR " + year, x.image(), year);
            due("restore()", x.restore(), year);
            x.year();
        }
        due("the latest one is there", x.restore(), 9);
    }

    private static void restore() {
        of("promise 35: It is RESTORED: the YEAR. -3 there is none");
        HelpedOnlyOnce x = three();
        due("none", x.restore(), -3);
        x.year();
        due("none still", x.restore(), -3);
        due("count(4)", x.count(4), 1);
        due("count(13)", x.count(13), 2);
        x.image();
        years(x, 3);
        due("restore()", x.restore(), 1);
        due("count(4)", x.count(4), 1);
        years(x, 5);
        due("restore() twice", x.restore(), 1);
        due("count(13)", x.count(13), 2);
        due("another object has none", three().restore(), -3);
    }

    private static void imageHolds() {
        of("THE IMAGE: all that there is, but it, letters, the ROW, REFUSALS");
        HelpedOnlyOnce x = told("p01,1111;p02,1111;l133;n00120;");
        x.image();
        x.feed('l');
        x.row(0);
        x.person(9, 0);
        x.person(0, 9);
        x.back();
        x.feed(-1);
        x.feed(256);
        becomeAnother(x);
        x.restore();
        int[] want = {2, 1, 0, 1, 0, 2, 1, 1};
        for (int what = 0; what < want.length; what++) {
            due("count(" + what + ")", x.count(what), want[what]);
        }
        int[] refused = {1, 1, 1, 1, 0, 1};
        for (int what = 11; what <= 16; what++) {
            due("count(" + what + ")", x.count(what), refused[what - 11]);
        }
        due("PLACE", x.person(0, 1), 1);
        due("SPAN", setting(x, SPAN), 3);
        due("SIZE", setting(x, SIZE), 3);
        due("OUT", setting(x, OUT), 0);
        due("who has helped", x.need(0, 5), 0);
        due("SPENT", x.spent(1, 0), 0);
        due("the ROW", x.chosen(TOLD, 0), -9);
        feedOnly(x, "33;");
        due("letters go on", x.town(), 1);
        due("LAW told", x.count(7), 0);
    }

    private static void imageOfTheBook() {
        of("THE IMAGE: all that there is: each help in the book");
        HelpedOnlyOnce x = told(times("p00,1000;", 7) + "n00130;n00130;n10130;n20110;");
        int[] helpers = {1, 2, 3, 4, 5, 6, 3, 4, 6};
        int[] needs = {0, 0, 0, 1, 1, 1, 2, 2, 3};
        int[] whos = {0, 0, 0, 0, 0, 0, 1, 1, 2};
        int[] ahead = {0, 1, 2, 0, 1, 2, 0, 1, 0};
        for (int i = 0; i < helpers.length; i++) {
            due("help", x.help(helpers[i], needs[i]), 1);
        }
        x.image();
        for (int left = 8; left >= 0; left--) {
            due("back()", x.back(), left);
            due("not SPENT", x.spent(helpers[left], whos[left]), 0);
        }
        int[] others = {6, 5, 4, 3, 2, 1, 5, 2, 3};
        for (int i = 0; i < others.length; i++) {
            due("others help", x.help(others[i], needs[i]), 1);
        }
        due("restore()", x.restore(), 0);
        due("count(2)", x.count(2), 9);
        for (int i = 0; i < helpers.length; i++) {
            due("SPENT again", x.spent(helpers[i], whos[i]), 1);
            due("SPENT again, the other way", x.spent(whos[i], helpers[i]), 1);
        }
        due("who helped behind the image", x.spent(2, 1) + x.spent(5, 1) + x.spent(3, 2), 0);
        for (int left = 8; left >= 0; left--) {
            due("back() again", x.back(), left);
            due("its NEED", x.need(needs[left], 5), ahead[left]);
            due("not SPENT again", x.spent(helpers[left], whos[left]), 0);
        }
    }

    // everything that an image holds becomes another; one letter more
    private static void becomeAnother(HelpedOnlyOnce x) {
        x.move(0, 50);
        x.help(1, 0);
        x.year();
        x.set(LAW, SMALL);
        x.set(SPAN, 9);
        x.set(SIZE, 9);
        x.set(OUT, 9);
        x.feed('0');
    }

    private static void countOthers() {
        of("promise 36: -9 for another what");
        HelpedOnlyOnce x = three();
        for (int what : new int[] {LEAST, -17, -16, -11, -10, -9, -1, 8, 9, 10, 17, 18, 256, 267, 65536, GREATEST}) {
            due("count(" + what + ")", x.count(what), -9);
        }
        for (int what = 11; what <= 16; what++) {
            due("count(" + what + "): none was refused", x.count(what), 0);
        }
        int[] want = {3, 4, 0, 3, 0, 0, 0, 0};
        for (int what = 0; what < want.length; what++) {
            due("count(" + what + ")", x.count(what), want[what]);
        }
    }

    private static void countRefusals() {
        of("promise 36: 11 .. 16 REFUSALS -1 .. -6");
        HelpedOnlyOnce x = nine();
        int[] many = {0, 0, 0, 0, 0, 0};
        for (int round = 1; round <= 8; round++) {
            x.minutes(9, 9);
            x.worth(1, 1);
            x.run(9);
            x.gap(9);
            x.restore();
            x.many(0, 0);
            x.many(0, 1000);
            x.gap(0);
            x.worth(0, 1);
            int[] more = {2, 2, 1, 1, 0, 3};
            for (int kind = 0; kind < 6; kind++) {
                many[kind] += more[kind];
                due("count(" + (11 + kind) + ")", x.count(11 + kind), many[kind]);
            }
        }
        x.clear();
        x.judge();
        x.town();
        x.image();
        x.restore();
        for (int kind = 0; kind < 6; kind++) {
            due("count(" + (11 + kind) + ") stands", x.count(11 + kind), many[kind]);
        }
    }

    private static void lastOf512Calls() {
        of("An object is used for at most 512 calls after it has been made");
        HelpedOnlyOnce refused = new HelpedOnlyOnce();
        for (int call = 1; call <= 511; call++) {
            due("call " + call, refused.person(0, 0), -1);
        }
        due("call 512", refused.count(11), 511);
        HelpedOnlyOnce fed = new HelpedOnlyOnce();
        for (int call = 1; call <= 511; call++) {
            due("call " + call, call % 65 == 0 ? fed.town() : fed.feed('p'), call % 65 == 0 ? -1001 : call % 65);
        }
        due("call 512", fed.feed('p'), 512 % 65);
        // 28 calls till the TOWN is told
        HelpedOnlyOnce helped = told("p00,0000;p40,1000;n00110;");
        for (int call = 29; call <= 511; call++) {
            due("call " + call, call % 2 == 1 ? helped.help(1, 0) : helped.back(), call % 2);
        }
        due("call 512", helped.back(), 0);
    }
}
