import java.util.ArrayList;
import java.util.List;
import java.util.function.Supplier;
import java.util.function.ToIntFunction;

/**
 * REFUSALS: "nothing changes but how many there were"; "in mind": nothing changes at all. After each such call the
 * object must answer all that can be asked as a twin does that was not called so.
 */
public final class NothingChangesTest extends Check {
    /** A call, and what it answers; none is due where any answer that is no refusal will do. */
    private record Ask(String call, Integer due, ToIntFunction<HelpedOnlyOnce> on) { }

    private static final int NO_ONE_FAR = 1000000001;
    private static final int OTHER_FAR = 1000000002;
    private static final int ROOM_FAR = 1000000006;

    public static void main(String[] args) {
        refusedIndexes();
        refusedOthers();
        refusedStates();
        refusedNumbers();
        refusedNobody();
        refusedFull();
        refusedNineNeeds();
        refusedNineHands();
        refusedYear();
        faults();
        inMind();
        onlyTold();
        onlyTheRow();
        end("NothingChangesTest");
    }

    // something of everything: a book, a ROW, letters, THE IMAGE of another TOWN, settings unlike the first ones
    private static HelpedOnlyOnce something() {
        HelpedOnlyOnce x = told("p00,1234;p410,4321;p65,9999;l298;n00520;n10111;");
        due("a help in YEAR 0", x.help(1, 0), 20);
        x.image();
        tell(x, "p510,1111;n20711;n00112;l246;");
        x.set(OUT, 2);
        due("another", x.help(2, 0), 22);
        x.year();
        due("a help in YEAR 1", x.help(3, 1), 5);
        x.move(0, 7);
        x.row(3);
        x.row(0);
        feedOnly(x, "l3");
        return x;
    }

    private static HelpedOnlyOnce nobody() {
        HelpedOnlyOnce x = new HelpedOnlyOnce();
        x.set(SPAN, 7);
        feedOnly(x, "p0");
        return x;
    }

    private static HelpedOnlyOnce full() {
        HelpedOnlyOnce x = told("p00,1234;p410,4321;n00520;n10111;");
        x.help(1, 0);
        for (int i = 0; i < 10; i++) {
            x.row(i % 2);
        }
        feedOnly(x, times("l033;", 12) + "l03");
        x.feed('9');
        return x;
    }

    private static HelpedOnlyOnce nineNeeds() {
        HelpedOnlyOnce x = told("p00,1234;p410,4321;" + times("n00110;", 8) + "n10119;");
        x.help(1, 0);
        x.row(1);
        return x;
    }

    private static HelpedOnlyOnce nineHands() {
        HelpedOnlyOnce x = told("p00,1234;p410,4321;n00130;n00135;n10139;n10110;");
        x.help(1, 0);
        return x;
    }

    private static HelpedOnlyOnce lastYear() {
        HelpedOnlyOnce x = told("p00,1234;p410,4321;n00520;");
        x.help(1, 0);
        years(x, 99);
        return x;
    }

    private static List<Integer> refusals(HelpedOnlyOnce x) {
        List<Integer> all = new ArrayList<>();
        for (int what = 11; what <= 16; what++) {
            all.add(x.count(what));
        }
        return all;
    }

    // asked without a refusal, so that REFUSALS can be compared by themselves
    private static void describe(HelpedOnlyOnce x, List<Integer> all) {
        for (int what = 0; what <= 7; what++) {
            all.add(x.count(what));
        }
        for (int what = SPAN; what <= OUT; what++) {
            all.add(setting(x, what));
        }
        int people = x.count(0);
        for (int one = 0; one < people; one++) {
            for (int what = 0; what < 6; what++) {
                all.add(x.person(one, what));
            }
            for (int other = 0; other < people; other++) {
                all.add(one == other ? 0 : x.spent(one, other));
            }
        }
        int needs = x.count(1);
        for (int need = 0; need < needs; need++) {
            for (int what = 0; what < 6; what++) {
                all.add(x.need(need, what));
            }
            all.add(x.chosen(TOLD, need));
            all.add(x.chosen(NEAR, need));
        }
        all.add(x.run(SKILLED));
        all.add(x.run(TOLD));
        all.add(people == 0 ? 0 : x.lasts(NEAR, 0));
    }

    // then taken apart: letters as a TOWN, the ROW judged, the book to its beginning, THE IMAGE
    private static List<Integer> all(HelpedOnlyOnce x) {
        List<Integer> all = new ArrayList<>();
        describe(x, all);
        if (x.count(5) < 64) {
            feedOnly(x, "33;");
        }
        all.add(x.town());
        all.add(x.count(7));
        all.add(x.judge());
        while (x.count(2) > 0) {
            all.add(x.back());
            for (int need = 0; need < x.count(1); need++) {
                all.add(x.need(need, 5));
            }
        }
        all.add(x.restore());
        describe(x, all);
        return all;
    }

    private static void asTwins(Supplier<HelpedOnlyOnce> made, Ask... asks) {
        List<Integer> want = all(made.get());
        for (Ask ask : asks) {
            HelpedOnlyOnce x = made.get();
            List<Integer> counted = refusals(x);
            int answer = ask.on().applyAsInt(x);
            int kind = answer >= -6 && answer <= -1 ? -answer : answer > 1000000000 ? answer - 1000000000 : 0;
            if (ask.due() == null) {
                due(ask.call() + " is refused", kind, 0);
            } else {
                due(ask.call(), answer, ask.due());
                int refused = ask.due() > 0 ? ask.due() - 1000000000 : -ask.due();
                counted.set(refused - 1, counted.get(refused - 1) + 1);
            }
            due(ask.call() + ": REFUSALS as due", refusals(x).equals(counted) ? 1 : 0, 1);
            due(ask.call() + ": all else as it was", all(x).equals(want) ? 1 : 0, 1);
        }
    }

    private static Ask ask(String call, int due, ToIntFunction<HelpedOnlyOnce> on) {
        return new Ask(call, due, on);
    }

    private static Ask ask(String call, ToIntFunction<HelpedOnlyOnce> on) {
        return new Ask(call, null, on);
    }

    private static void refusedIndexes() {
        of("-1 NOBODY: no such one, NEED, HELP");
        for (int no : new int[] {-1, 4}) {
            asTwins(NothingChangesTest::something,
                ask("person", -1, x -> x.person(no, 0)),
                ask("need", -1, x -> x.need(no, 0)),
                ask("minutes", -1, x -> x.minutes(no, 0)),
                ask("minutes", -1, x -> x.minutes(0, no)),
                ask("spent", -1, x -> x.spent(no, 0)),
                ask("spent", -1, x -> x.spent(0, no)),
                ask("spent of one twice", -1, x -> x.spent(1, 1)),
                ask("may", -1, x -> x.may(no, 0)),
                ask("may", -1, x -> x.may(0, no)),
                ask("good", -1, x -> x.good(no, 0)),
                ask("good", -1, x -> x.good(0, no)),
                ask("help", -1, x -> x.help(no, 2)),
                ask("help", -1, x -> x.help(0, no)),
                ask("chosen", -1, x -> x.chosen(0, no)),
                ask("loss", -1, x -> x.loss(no, 0)),
                ask("loss", -1, x -> x.loss(0, no)),
                ask("worth", NO_ONE_FAR, x -> x.worth(no, 0)),
                ask("worth", NO_ONE_FAR, x -> x.worth(0, no)),
                ask("worth of one twice", NO_ONE_FAR, x -> x.worth(2, 2)),
                ask("keeps", -1, x -> x.keeps(no)),
                ask("lasts", -1, x -> x.lasts(0, no)),
                ask("move", -1, x -> x.move(no, 5)),
                ask("bestPlace", -1, x -> x.bestPlace(no)),
                ask("row", -1, x -> x.row(no)));
        }
    }

    private static void refusedOthers() {
        of("-2 OTHER: what, RULE, LAW");
        for (int no : new int[] {-1, 6}) {
            asTwins(NothingChangesTest::something,
                ask("person", -2, x -> x.person(0, no)),
                ask("need", -2, x -> x.need(0, no)),
                ask("set", -2, x -> x.set(no, 1)),
                ask("chosen", -2, x -> x.chosen(no, 0)),
                ask("run", -2, x -> x.run(no)),
                ask("without", -2, x -> x.without(no)),
                ask("gap", OTHER_FAR, x -> x.gap(no)),
                ask("lasts", -2, x -> x.lasts(no, 0)),
                ask("many", -2, x -> x.many(no, 1)),
                ask("strangers", -2, x -> x.strangers(no)),
                ask("byLaw", -2, x -> x.byLaw(no, 0)),
                ask("byLaw", -2, x -> x.byLaw(0, no)),
                ask("seeds", -2, x -> x.seeds(no, 1, 1)));
        }
        asTwins(NothingChangesTest::something,
            ask("set(4, 1)", -2, x -> x.set(4, 1)),
            ask("many(4, 1)", -2, x -> x.many(4, 1)),
            ask("byLaw(4, 0)", -2, x -> x.byLaw(4, 0)));
    }

    private static void refusedStates() {
        of("-3 STATE: it is not as told");
        asTwins(NothingChangesTest::something,
            ask("help by oneself", -3, x -> x.help(2, 2)),
            ask("help by one who is SPENT", -3, x -> x.help(0, 2)),
            ask("help with all HANDS done", -3, x -> x.help(2, 1)),
            ask("help of a YEAR that was", -3, x -> x.help(3, 0)),
            ask("help of a YEAR to come", -3, x -> x.help(3, 3)));
    }

    private static void refusedNumbers() {
        of("-4 BELOW: a number below the least. -6 ROOM: a number above the greatest");
        asTwins(NothingChangesTest::something,
            ask("feed(-1)", -4, x -> x.feed(-1)),
            ask("feed(256)", -6, x -> x.feed(256)),
            ask("set(LAW, -1)", -4, x -> x.set(LAW, -1)),
            ask("set(SPAN, 0)", -4, x -> x.set(SPAN, 0)),
            ask("set(SIZE, -1)", -4, x -> x.set(SIZE, -1)),
            ask("set(OUT, -1)", -4, x -> x.set(OUT, -1)),
            ask("set(LAW, 4)", -6, x -> x.set(LAW, 4)),
            ask("set(SPAN, 10)", -6, x -> x.set(SPAN, 10)),
            ask("set(SIZE, 10)", -6, x -> x.set(SIZE, 10)),
            ask("set(OUT, 10)", -6, x -> x.set(OUT, 10)),
            ask("many(0, 0)", -4, x -> x.many(0, 0)),
            ask("many(0, 1000)", -6, x -> x.many(0, 1000)),
            ask("move(0, -1)", -4, x -> x.move(0, -1)),
            ask("move(0, 100)", -6, x -> x.move(0, 100)),
            ask("seeds(0, 0, 1)", -4, x -> x.seeds(0, 0, 1)),
            ask("seeds(0, 11, 1)", -6, x -> x.seeds(0, 11, 1)));
    }

    private static void refusedNobody() {
        of("-3 there is none; -3 nobody");
        asTwins(NothingChangesTest::nobody,
            ask("back", -3, HelpedOnlyOnce::back),
            ask("restore", -3, HelpedOnlyOnce::restore),
            ask("lasts", -3, x -> x.lasts(0, 0)),
            ask("seeds", -3, x -> x.seeds(0, 1, 1)),
            ask("row", -1, x -> x.row(0)),
            ask("keeps", -1, x -> x.keeps(0)),
            ask("help", -1, x -> x.help(0, 0)));
    }

    private static void refusedFull() {
        of("-6 ROOM: no room");
        asTwins(NothingChangesTest::full,
            ask("feed the 65th", -6, x -> x.feed(';')),
            ask("feed what is no letter", -4, x -> x.feed(-1)),
            ask("row of ten", -6, x -> x.row(0)),
            ask("row of ten", -1, x -> x.row(2)));
    }

    private static void refusedNineNeeds() {
        of("8 NEEDS at most: -6 likewise");
        asTwins(NothingChangesTest::nineNeeds,
            ask("most", -6, HelpedOnlyOnce::most),
            ask("first", -6, HelpedOnlyOnce::first),
            ask("gap", ROOM_FAR, x -> x.gap(0)),
            ask("worth", ROOM_FAR, x -> x.worth(1, 0)),
            ask("keeps", -6, x -> x.keeps(0)));
    }

    private static void refusedNineHands() {
        of("at most 8 HANDS left in all: -6 likewise");
        asTwins(NothingChangesTest::nineHands,
            ask("most", -6, HelpedOnlyOnce::most),
            ask("first", -6, HelpedOnlyOnce::first),
            ask("gap", ROOM_FAR, x -> x.gap(0)),
            ask("worth", ROOM_FAR, x -> x.worth(1, 0)),
            ask("keeps", -6, x -> x.keeps(0)));
    }

    private static void refusedYear() {
        of("-6 it is 99");
        asTwins(NothingChangesTest::lastYear, ask("year", -6, HelpedOnlyOnce::year));
    }

    // the twin's letters are no more, too, but by a FAULT of another kind
    private static void faults() {
        of("with one nothing; the letters are no more (with a FAULT neither); nothing is counted");
        HelpedOnlyOnce twin = something();
        due("the letters fed are no TOWN", twin.town(), -1002);
        List<Integer> want = all(twin);
        String[] texts = {"33;p01,1111;n00110;p71,1111;", "33;p01,1111;n00110;n90110;", "33;p01,1111;n00110;l400;", "33;l11", "0;l0x",
            "03;"};
        int[] faults = {-2021, -2021, -2021, -1008, -1003, -2000};
        for (int i = 0; i < texts.length; i++) {
            HelpedOnlyOnce x = something();
            List<Integer> counted = refusals(x);
            due("town of l3" + texts[i], feedAll(x, texts[i]), faults[i]);
            due("nothing is counted", refusals(x).equals(counted) ? 1 : 0, 1);
            due("all else as it was behind l3" + texts[i], all(x).equals(want) ? 1 : 0, 1);
        }
    }

    private static void inMind() {
        of("in mind");
        for (int law = 0; law <= 3; law++) {
            int ofLaw = law;
            Supplier<HelpedOnlyOnce> made = () -> {
                HelpedOnlyOnce x = something();
                x.set(LAW, ofLaw);
                return x;
            };
            for (int rule = NEAR; rule <= TOLD; rule++) {
                int by = rule;
                asTwins(made,
                    ask("run", x -> x.run(by)),
                    ask("without", x -> x.without(by)),
                    ask("gap", x -> x.gap(by)),
                    ask("lasts", x -> x.lasts(by, 0)),
                    ask("strangers", x -> x.strangers(by)),
                    ask("byLaw", x -> x.byLaw(3 - ofLaw, by)),
                    ask("seeds", x -> x.seeds(by, 10, 3)));
            }
            asTwins(made,
                ask("most", HelpedOnlyOnce::most),
                ask("first", x -> Math.max(0, x.first())),
                ask("worth", x -> x.worth(3, 2)),
                ask("keeps", x -> Math.max(0, x.keeps(2))),
                ask("bestPlace", x -> x.bestPlace(2)),
                ask("smallest", HelpedOnlyOnce::smallest));
        }
    }

    private static void onlyTold() {
        of("what only tells changes nothing");
        asTwins(NothingChangesTest::something,
            ask("person", x -> x.person(3, 5)),
            ask("need", x -> x.need(2, 5)),
            ask("minutes", x -> x.minutes(0, 3)),
            ask("spent", x -> x.spent(3, 2)),
            ask("may", x -> x.may(3, 2)),
            ask("good", x -> x.good(3, 2)),
            ask("loss", x -> x.loss(3, 0)),
            ask("chosen", x -> x.chosen(SKILLED, 2)),
            ask("many", x -> x.many(0, 9)),
            ask("move to where it is", x -> x.move(0, 7)),
            ask("set to what it is", x -> x.set(SPAN, 4)),
            ask("help and back", x -> x.help(3, 2) + x.back()),
            ask("count(0)", x -> x.count(0)),
            ask("count(99)", x -> x.count(99) + 9));
        Supplier<HelpedOnlyOnce> imaged = () -> {
            HelpedOnlyOnce x = something();
            x.image();
            return x;
        };
        asTwins(imaged,
            ask("image of the same", HelpedOnlyOnce::image),
            ask("restore of the same", HelpedOnlyOnce::restore),
            ask("restore of what was", x -> x.year() + x.set(LAW, 0) + x.restore()));
    }

    private static void onlyTheRow() {
        of("judge(), clear(): the ROW has none then, and nothing else changes");
        HelpedOnlyOnce twin = something();
        twin.clear();
        List<Integer> want = all(twin);
        HelpedOnlyOnce judged = something();
        List<Integer> counted = refusals(judged);
        due("judge(): too long for one HAND", judged.judge(), 1);
        due("REFUSALS as they were", refusals(judged).equals(counted) ? 1 : 0, 1);
        due("all else as it was", all(judged).equals(want) ? 1 : 0, 1);
    }
}
