/** Each boundary that "Terms", part II, names: RULES, LOSS, RUN, MOST, LASTS, places, strangers, SEEDS, the ROW. */
public final class BoundaryRulesTest extends Check {
    // NEEDS of one HAND, GRAVE 1, in each YEAR, for which a GUEST is the only one who can do anything
    private static final String EACH_YEAR = "p00,0000;p40,1000;n00110;n00111;n00112;n00113;n00114;n00115;n00116;n00117;n00118;n00119;";

    public static void main(String[] args) {
        noneMay();
        near();
        skilled();
        spare();
        keep();
        kin();
        kinAtTheEnds();
        toldByTheRow();
        toldByAFullRow();
        lossBehind();
        lossOfNone();
        runTillYearNine();
        runHandsLeft();
        runByTheWholeBook();
        runByYears();
        without();
        mostOfEightNeeds();
        mostOfEightHands();
        mostOfAFullTown();
        mostOfEarlierYears();
        mostWithNobody();
        firstOfSeveral();
        firstNobody();
        gapOfNothing();
        worthOfNothing();
        worthByTheLaw();
        keepsAtTheEnds();
        lastsNone();
        lastsByLaws();
        lastsFromThisYear();
        lastsByGrave();
        many();
        bestPlaceAtTheEnds();
        bestPlaceOfSeveral();
        strangersEachOnce();
        strangersOnlyForNobody();
        smallestOfSizes();
        byAnotherLaw();
        draws();
        drawsWrap();
        seedsYears();
        judgedAtTheEnds();
        judgedTen();
        judgedWhoIsGone();
        judgedHands();
        end("BoundaryRulesTest");
    }

    private static void noneMay() {
        of("of all who MAY help with a NEED the one it chooses (of several the least number; none)");
        HelpedOnlyOnce alone = told("p00,9999;n00910;");
        HelpedOnlyOnce spent = told("p00,9999;p00,9999;n00910;n00910;");
        spent.help(1, 0);
        HelpedOnlyOnce closed = told("p00,9999;p00,9999;n00911;");
        alone.row(0);
        spent.row(1);
        closed.row(1);
        for (int rule = NEAR; rule <= TOLD; rule++) {
            due("nobody else, RULE " + rule, alone.chosen(rule, 0), -9);
            due("SPENT, RULE " + rule, spent.chosen(rule, 1), -9);
            due("all HANDS done, RULE " + rule, spent.chosen(rule, 0), -9);
            due("a later YEAR, RULE " + rule, closed.chosen(rule, 0), -9);
        }
        closed.year();
        for (int rule = NEAR; rule <= TOLD; rule++) {
            due("of the YEAR, RULE " + rule, closed.chosen(rule, 0), rule == KIN ? -9 : 1);
        }
        closed.year();
        for (int rule = NEAR; rule <= TOLD; rule++) {
            due("of a YEAR that was, RULE " + rule, closed.chosen(rule, 0), -9);
        }
    }

    private static void near() {
        of("NEAR: whose minutes are least; of several the least number");
        HelpedOnlyOnce x = told("p050,0000;p061,9999;p040,0000;p060,9999;p039,9999;n00130;n00910;");
        due("40 and 60 from 50", x.chosen(NEAR, 0), 2);
        x.help(2, 0);
        due("60 alone", x.chosen(NEAR, 0), 3);
        x.help(3, 0);
        due("39 and 61", x.chosen(NEAR, 0), 1);
        x.help(1, 0);
        due("39 alone", x.chosen(NEAR, 1), 4);
        x.move(4, 0);
        due("as far as 50 minutes", x.chosen(NEAR, 1), 4);
        HelpedOnlyOnce y = told("p00,0000;p099,0000;p00,0000;n00110;");
        due("no minutes at all", y.chosen(NEAR, 0), 2);
        y.move(2, 99);
        due("99 minutes both", y.chosen(NEAR, 0), 1);
        y.move(2, 98);
        due("98 and 99", y.chosen(NEAR, 0), 2);
    }

    private static void skilled() {
        of("SKILLED: whose GOOD is greatest; of several the least number");
        HelpedOnlyOnce x = told("p00,0000;p00,0000;p00,0000;n00910;n10910;");
        due("none can do anything", x.chosen(SKILLED, 0), 1);
        due("WHO is another one", x.chosen(SKILLED, 1), 0);
        HelpedOnlyOnce y = told("p00,9000;p00,4000;p20,9000;p00,4000;p00,5000;p00,3000;n00110;n00110;");
        due("5 is greatest, but WHO itself", y.chosen(SKILLED, 0), 4);
        y.help(4, 0);
        due("4 as a PERSON, half of 9, 4", y.chosen(SKILLED, 1), 1);
        HelpedOnlyOnce seven = told("p00,0000;" + times("p00,1000;", 5) + "p00,2000;n00110;");
        due("the last of seven", seven.chosen(SKILLED, 0), 6);
    }

    private static void spare() {
        of("SPARE: whose LOSS is least; of several the least number");
        HelpedOnlyOnce x = told("p00,0000;p00,9200;p00,0100;p00,5100;p00,0200;n00110;n01119;");
        due("LOSS 2, 1, 1, 2", x.chosen(SPARE, 0), 2);
        years(x, 9);
        due("LOSS 0 of all", x.chosen(SPARE, 1), 1);
        HelpedOnlyOnce y = told("p00,0000;p00,0900;p00,9000;n00110;n01119;");
        due("LOSS 9, 0", y.chosen(SPARE, 0), 2);
    }

    private static void keep() {
        of("KEEP: as SPARE, but none whose LOSS is as much as its GOOD or more");
        for (int good = 0; good <= 9; good++) {
            for (int loss = 0; loss <= 9; loss++) {
                HelpedOnlyOnce x = told("p00,0000;p00," + good + loss + "00;n00110;n01119;");
                due("KEEP, GOOD " + good + ", LOSS " + loss, x.chosen(KEEP, 0), loss < good ? 1 : -9);
                due("SPARE, GOOD " + good + ", LOSS " + loss, x.chosen(SPARE, 0), 1);
            }
        }
        HelpedOnlyOnce x = told("p00,0000;p00,3300;p00,9800;p00,8700;p00,9700;n00110;n01119;");
        due("of those whose LOSS is below the least", x.chosen(KEEP, 0), 3);
        due("SPARE", x.chosen(SPARE, 0), 1);
    }

    private static void kin() {
        of("KIN: as NEAR, but none whose number is just beside the WHO's (1 more or 1 less)");
        int[] least = {2, 3, 0, 0, 0, 0, 0};
        for (int who = 0; who <= 6; who++) {
            HelpedOnlyOnce x = told(times("p050,0000;", 7) + "n" + who + "0110;");
            due("of seven as near, WHO " + who, x.chosen(KIN, 0), least[who]);
            due("NEAR, WHO " + who, x.chosen(NEAR, 0), who == 0 ? 1 : 0);
            x.move(who, 40);
            for (int near = 0; near <= 6; near++) {
                int beside = near < who ? who - near : near - who;
                if (beside > 0) {
                    x.move(near, 49);
                    due("nearest is " + near + ", WHO " + who, x.chosen(KIN, 0), beside > 1 ? near : least[who]);
                    due("NEAR all the same", x.chosen(NEAR, 0), near);
                    x.move(near, 50);
                }
            }
        }
    }

    private static void kinAtTheEnds() {
        of("1 more or 1 less");
        HelpedOnlyOnce two = told("p00,9999;p00,9999;n00910;n10910;");
        due("two: WHO 0", two.chosen(KIN, 0), -9);
        due("two: WHO 1", two.chosen(KIN, 1), -9);
        HelpedOnlyOnce three = told("p00,9999;p00,9999;p00,9999;n00910;n10910;n20910;");
        due("three: WHO 0", three.chosen(KIN, 0), 2);
        due("three: WHO 1", three.chosen(KIN, 1), -9);
        due("three: WHO 2", three.chosen(KIN, 2), 0);
        due("HANDS left by KIN", three.without(KIN), 2);
    }

    private static void toldByTheRow() {
        of("TOLD: the first of the ROW (as it is told, from its beginning) who MAY help with it");
        HelpedOnlyOnce x = told("p00,0000;p00,1000;p00,2000;p00,3000;n00130;n10110;n00111;");
        due("no ROW", x.chosen(TOLD, 0), -9);
        x.row(0);
        due("WHO alone", x.chosen(TOLD, 0), -9);
        due("WHO is another one", x.chosen(TOLD, 1), 0);
        x.row(3);
        x.row(2);
        x.row(3);
        due("behind WHO", x.chosen(TOLD, 0), 3);
        due("of a later YEAR", x.chosen(TOLD, 2), -9);
        x.help(3, 0);
        due("behind who is SPENT", x.chosen(TOLD, 0), 2);
        x.help(2, 0);
        due("who is SPENT comes again", x.chosen(TOLD, 0), -9);
        due("who is not in the ROW", x.chosen(NEAR, 0), 1);
        due("from its beginning again", x.chosen(TOLD, 1), 0);
        due("the ROW is as it was", x.count(6), 4);
        x.clear();
        due("no ROW any more", x.chosen(TOLD, 1), -9);
    }

    private static void toldByAFullRow() {
        of("A ROW of PEOPLE (10 at most)");
        HelpedOnlyOnce x = told("p00,0000;p00,1000;n00110;");
        for (int i = 1; i <= 9; i++) {
            due("row(0)", x.row(0), i);
        }
        due("none of nine", x.chosen(TOLD, 0), -9);
        due("the tenth", x.row(1), 10);
        due("the last of ten", x.chosen(TOLD, 0), 1);
        due("one more", x.row(0), -6);
        due("RUN by the last of ten", x.run(TOLD), 1);
        tell(x, "n00119;n00110;");
        due("SPENT by the first HAND", x.run(TOLD), 1);
        HelpedOnlyOnce guest = told("p00,0000;p00,2000;p40,1000;n00110;n00120;n00119;");
        guest.row(1);
        guest.row(2);
        due("from its beginning for each HAND", guest.run(TOLD), 2 + 1 + 0 + 1);
        due("the ROW is as it was", guest.count(6), 2);
    }

    private static void lossBehind() {
        of("of all other NEEDS of the same WHO that come behind it in the list the greatest GOOD");
        HelpedOnlyOnce x = told("p00,0000;p00,1000;p00,0000;n00910;n00510;n20810;n00310;n00419;n00110;");
        int[] want = {5, 4, 0, 4, 1, 0};
        for (int need = 0; need < want.length; need++) {
            due("loss(1, " + need + ")", x.loss(1, need), want[need]);
        }
        x.help(1, 1);
        due("whether one MAY or not", x.loss(1, 0), 5);
        years(x, 5);
        due("in whatever YEAR", x.loss(1, 0), 5);
        due("of one who can't do anything", x.loss(2, 0), 0);
        due("of WHO itself", x.loss(0, 0), 0);
        HelpedOnlyOnce twelve = told("p00,0000;p00,1000;n00910;" + times("n00110;", 10) + "n00710;");
        due("the last of twelve", twelve.loss(1, 0), 7);
        due("behind the last but one", twelve.loss(1, 10), 7);
        due("behind the last", twelve.loss(1, 11), 0);
    }

    private static void lossOfNone() {
        of("LOSS (0 none)");
        HelpedOnlyOnce x = told("p00,9999;p00,9999;n00910;n10910;");
        due("the only NEED of WHO 0", x.loss(1, 0), 0);
        due("the last NEED", x.loss(0, 1), 0);
        tell(x, "n10110;");
        due("of WHO 0 there is no more", x.loss(1, 0), 0);
        due("of WHO 1 there is one more", x.loss(0, 1), 9);
        due("KEEP with LOSS 0", x.chosen(KEEP, 0), 1);
    }

    private static void runTillYearNine() {
        of("RUN (in mind, from now): till YEAR 9 is done");
        HelpedOnlyOnce x = told(EACH_YEAR);
        for (int year = 0; year <= 12; year++) {
            int left = Math.max(0, 10 - year);
            due("run(NEAR) from YEAR " + year, x.run(NEAR), left);
            due("strangers(NEAR) from YEAR " + year, x.strangers(NEAR), left);
            due("byLaw(ONE, NEAR) from YEAR " + year, x.byLaw(ONE, NEAR), left);
            due("without(NEAR) from YEAR " + year, x.without(NEAR), 0);
            due("without(TOLD) from YEAR " + year, x.without(TOLD), left);
            due("most() from YEAR " + year, x.most(), left > 8 ? -6 : left);
            due("first() from YEAR " + year, x.first(), left > 8 ? -6 : left > 0 ? 1 : -9);
            due("gap(TOLD) from YEAR " + year, x.gap(TOLD), left > 8 ? 1000000006 : left);
            due("year()", x.year(), year + 1);
        }
        years(x, 86);
        due("YEAR", x.count(4), 99);
        due("run(NEAR) from YEAR 99", x.run(NEAR), 0);
        due("without(TOLD) from YEAR 99", x.without(TOLD), 0);
        due("most() from YEAR 99", x.most(), 0);
        due("first() from YEAR 99", x.first(), -9);
    }

    private static void runHandsLeft() {
        of("NEEDS of this YEAR as they come, each as often as HANDS are left");
        HelpedOnlyOnce x = told("p00,0000;p40,1000;p40,2000;p40,3000;n00130;n00120;n00110;");
        due("none done", x.run(SKILLED), 3 + 2 + 1 + 3 + 2 + 3);
        x.help(3, 0);
        due("one HAND done", x.run(SKILLED), 2 + 1 + 3 + 2 + 3);
        x.help(1, 1);
        x.help(2, 1);
        due("one NEED done", x.run(SKILLED), 2 + 1 + 3);
        x.help(3, 2);
        x.help(2, 0);
        due("one HAND left", x.run(SKILLED), 1);
        x.help(1, 0);
        due("all done", x.run(SKILLED), 0);
        due("none left", x.without(SKILLED), 0);
        due("nobody", new HelpedOnlyOnce().run(NEAR), 0);
        due("one of PEOPLE, no NEED", told("p00,9999;").run(SKILLED), 0);
    }

    private static void runByTheWholeBook() {
        of("RUN (in mind, from now), by all the helps in the book");
        for (int others = 0; others <= 10; others++) {
            // two alike, as what was in mind before must not be what is found there
            for (boolean done : new boolean[] {false, true}) {
                HelpedOnlyOnce x = told("p00,0000;p40,1000;p00,1000;" + times("n00110;", 12));
                for (int need = 0; need < others; need++) {
                    due("a GUEST", x.help(1, need), 1);
                }
                if (done) {
                    due("2 helps, the last in the book", x.help(2, others), 1);
                }
                due("KIN chooses 2 once", x.run(KIN), done ? 0 : 1);
                due("HANDS left", x.without(KIN), 11 - others);
                due("lasts by KIN", x.lasts(KIN, 0), 0);
            }
        }
    }

    private static void runByYears() {
        of("then YEAR is one more");
        for (int span = 1; span <= 9; span++) {
            HelpedOnlyOnce x = told(EACH_YEAR.replace("p40", "p00") + "l2" + span + "3;");
            int helps = (9 + span) / span;
            due("run(NEAR) by SPAN " + span, x.run(NEAR), helps);
            due("without(NEAR) by SPAN " + span, x.without(NEAR), 10 - helps);
            due("YEAR as it was", x.count(4), 0);
        }
    }

    private static void without() {
        of("WITHOUT: how many HANDS were left so (of all NEEDS of these YEARS)");
        due("nobody", new HelpedOnlyOnce().without(NEAR), 0);
        HelpedOnlyOnce x = told("p00,0000;" + times("n00130;", 6) + times("n00139;", 6));
        for (int rule = NEAR; rule <= TOLD; rule++) {
            due("36 HANDS, nobody for them, RULE " + rule, x.without(rule), 36);
        }
        tell(x, times("p40,1000;", 3));
        due("36 HANDS, three for each", x.without(NEAR), 0);
        due("KIN leaves one of them out", x.without(KIN), 12);
        x.year();
        due("those of YEAR 0 aside", x.without(TOLD), 18);
        years(x, 8);
        due("in YEAR 9", x.without(TOLD), 18);
        x.year();
        due("in YEAR 10", x.without(TOLD), 0);
    }

    private static void refusedForMany(HelpedOnlyOnce x, boolean refused) {
        due("most()", x.most() == -6 ? 1 : 0, refused ? 1 : 0);
        due("first()", x.first() == -6 ? 1 : 0, refused ? 1 : 0);
        due("gap(0)", x.gap(0) == 1000000006 ? 1 : 0, refused ? 1 : 0);
        due("worth(1, 0)", x.worth(1, 0) == 1000000006 ? 1 : 0, refused ? 1 : 0);
        due("keeps(0)", x.keeps(0) == -6 ? 1 : 0, refused ? 1 : 0);
    }

    private static void mostOfEightNeeds() {
        of("8 NEEDS at most that are of this YEAR or later");
        HelpedOnlyOnce x = told("p00,0000;p40,1000;");
        for (int need = 1; need <= 12; need++) {
            tell(x, "n0011" + (need % 2 == 0 ? 0 : 9) + ";");
            refusedForMany(x, need > 8);
            due("MOST of " + need, x.most(), need > 8 ? -6 : need);
        }
        due("count(16)", x.count(16), 4 * 6);
        HelpedOnlyOnce done = told("p00,0000;p40,1000;" + times("n00110;", 8));
        done.help(1, 0);
        done.help(1, 1);
        due("8 NEEDS, 6 HANDS", done.most(), 6);
        tell(done, "n00110;");
        due("9 NEEDS, 7 HANDS", done.most(), -6);
        HelpedOnlyOnce later = told("p00,0000;p40,1000;n00110;n00110;" + times("n00111;", 9));
        later.year();
        later.help(1, 10);
        due("2 NEEDS that were, 9 of the YEAR, 8 HANDS", later.most(), -6);
        refusedForMany(later, true);
        HelpedOnlyOnce eight = told("p00,0000;p40,1000;n00110;n00110;" + times("n00111;", 8));
        eight.year();
        eight.help(1, 9);
        due("2 NEEDS that were, 8 of the YEAR, 7 HANDS", eight.most(), 7);
        refusedForMany(eight, false);
    }

    private static void mostOfEightHands() {
        of("at most 8 HANDS left in all");
        String people = "p00,0000;p40,1000;p40,1000;p40,1000;";
        HelpedOnlyOnce x = told(people + "n00130;n00139;n00120;");
        refusedForMany(x, false);
        due("8 HANDS", x.most(), 8);
        tell(x, "n00110;");
        refusedForMany(x, true);
        x.help(1, 0);
        refusedForMany(x, false);
        due("9 HANDS, one done", x.most(), 8);
        tell(x, "n00115;");
        refusedForMany(x, true);
        x.help(2, 2);
        due("10 HANDS, two done", x.most(), 8);
        x.back();
        refusedForMany(x, true);
        HelpedOnlyOnce y = told(people + "n00130;n00130;n00130;");
        refusedForMany(y, true);
        y.help(1, 0);
        y.help(2, 0);
        y.help(3, 0);
        refusedForMany(y, false);
        due("3 NEEDS, one all done", y.most(), 6);
    }

    private static void mostOfAFullTown() {
        of("MOST: the greatest sum of GOODS (8 NEEDS at most ..; at most 8 HANDS left in all), PEOPLE 0 .. 6");
        String people = "p00,0000;p00,1000;p00,2000;p00,3000;p00,4000;p00,5000;p00,6000;";
        HelpedOnlyOnce up = told(people + "n00110;n00210;n00310;n00410;n00510;n00610;n00710;n00810;");
        // each once: SKILLS 1 .. 6 for GRAVES 3 .. 8
        due("GRAVES from the least", up.most(), 3 + 8 + 15 + 24 + 35 + 48);
        due("nobody for the least", up.first(), -9);
        // SKILLED takes 6 for GRAVE 1, 5 for 2, .. 1 for 6
        due("SKILLED is behind", up.gap(SKILLED), 133 - (6 + 10 + 12 + 12 + 10 + 6));
        due("without the least", up.worth(1, 0), 133 - (8 + 15 + 24 + 35 + 48));
        due("without the greatest", up.worth(6, 0), 133 - (4 + 10 + 18 + 28 + 40));
        due("keep the greatest", up.keeps(0), 6);
        HelpedOnlyOnce down = told(people + "n00810;n00710;n00610;n00510;n00410;n00310;n00210;n00110;");
        due("GRAVES from the greatest", down.most(), 133);
        due("the greatest for the greatest", down.first(), 6);
        due("SKILLED is not behind", down.gap(SKILLED), 0);
        HelpedOnlyOnce hands = told(people + "n00130;n00930;n00520;");
        // SKILLS 6 5 4 for GRAVE 9, 3 2 for 5, 1 for 1
        due("8 HANDS of 3 NEEDS", hands.most(), 9 * 15 + 5 * 5 + 1);
        due("the least first", hands.first(), 1);
        tell(hands, "n00910;");
        due("a ninth HAND", hands.most(), -6);
    }

    private static void mostOfEarlierYears() {
        of("8 NEEDS at most that are of this YEAR or later; at most 8 HANDS");
        HelpedOnlyOnce x = told("p00,0000;p40,1000;p40,1000;" + times("n00130;", 4) + "n00122;n00122;n00122;n00122;");
        refusedForMany(x, true);
        x.year();
        refusedForMany(x, false);
        due("12 HANDS of a YEAR that was", x.most(), 8);
        tell(x, "n00130;n00130;n00130;n00130;");
        due("8 NEEDS of a YEAR that was", x.most(), 8);
        x.year();
        due("in their YEAR", x.most(), 8);
        x.year();
        due("all over", x.most(), 0);
        due("nobody first", x.first(), -9);
    }

    private static void mostWithNobody() {
        of("MOST: each with whom one likes who MAY, or nobody");
        due("of nothing", new HelpedOnlyOnce().most(), 0);
        HelpedOnlyOnce x = told("p00,0000;p00,1200;n00910;n01910;");
        due("better nobody first", x.most(), 18);
        due("so nobody first", x.first(), -9);
        due("GAP of NEAR", x.gap(NEAR), 9);
        x.help(1, 0);
        due("SPENT", x.most(), 0);
        due("nobody MAY", x.first(), -9);
        HelpedOnlyOnce y = told("p00,1000;p00,1000;l133;n00910;n10910;");
        due("both ways by ONE", y.most(), 18);
        y.set(LAW, BOTH);
        due("one way by BOTH", y.most(), 9);
    }

    private static void firstOfSeveral() {
        of("who helps first by the first of these ways (by who is least, nobody last)");
        HelpedOnlyOnce x = told("p00,0000;p00,5500;p00,5500;n00110;n01110;");
        due("1 and 2, or 2 and 1", x.first(), 1);
        due("both", x.most(), 10);
        HelpedOnlyOnce y = told("p00,0000;p00,5500;n00110;n01110;");
        due("1 first, or nobody and 1", y.first(), 1);
        HelpedOnlyOnce z = told("p00,0000;p00,0000;p00,0000;n00110;");
        due("1, 2 or nobody, all for nothing", z.first(), 1);
        HelpedOnlyOnce zero = told("p00,0000;p00,0000;n10110;");
        due("0 is the least", zero.first(), 0);
        HelpedOnlyOnce last = told("p00,0000;" + times("p00,1000;", 5) + "p00,2000;n00110;");
        due("the last of seven", last.first(), 6);
        HelpedOnlyOnce later = told("p00,0000;p00,1000;p00,2000;n00115;");
        due("the first HAND is of YEAR 5", later.first(), 2);
        HelpedOnlyOnce order = told("p00,0000;p00,1000;p00,0000;p00,0020;n00117;n02110;");
        due("of YEAR 0, though behind in the list", order.first(), 3);
        HelpedOnlyOnce hands = told("p00,0000;p40,1000;p40,1000;n00120;");
        hands.help(1, 0);
        due("the first HAND that is left", hands.first(), 2);
    }

    private static void firstNobody() {
        of("-9 nobody, no HANDS");
        due("of nothing", new HelpedOnlyOnce().first(), -9);
        due("no NEED", told("p00,0000;p00,0000;").first(), -9);
        due("one alone", told("p00,9999;n00910;").first(), -9);
        HelpedOnlyOnce x = told("p00,0000;p40,1000;n00110;n00110;");
        due("one HAND and one", x.first(), 1);
        x.help(1, 0);
        due("one HAND", x.first(), 1);
        x.help(1, 1);
        due("no HANDS", x.first(), -9);
        x.year();
        due("no NEED of this YEAR or later", x.first(), -9);
    }

    private static void gapOfNothing() {
        of("GAP of a RULE: MOST less RUN");
        HelpedOnlyOnce none = new HelpedOnlyOnce();
        for (int rule = NEAR; rule <= TOLD; rule++) {
            due("of nothing, RULE " + rule, none.gap(rule), 0);
        }
        HelpedOnlyOnce x = told("p00,0000;p00,1000;p00,9000;n00910;");
        int[] want = {72, 0, 72, 72, 0, 81};
        for (int rule = NEAR; rule <= TOLD; rule++) {
            due("gap(" + rule + ")", x.gap(rule), want[rule]);
        }
    }

    private static void worthOfNothing() {
        of("WORTH of a PAIR: MOST less what it were if the book had such a help now");
        HelpedOnlyOnce x = told("p00,0000;p00,9000;p00,1000;p40,9000;");
        due("no NEEDS", x.worth(1, 0), 0);
        tell(x, "n00110;n00910;");
        due("MOST", x.most(), 81 + 9);
        due("a GUEST is never SPENT", x.worth(3, 0), 0);
        due("the GUEST does both", x.worth(1, 0), 0);
        due("one who is not needed", x.worth(2, 0), 0);
        due("no NEED of it", x.worth(1, 2), 0);
        x.help(1, 0);
        due("SPENT already", x.worth(1, 0), 0);
        due("the GUEST does the other", x.most(), 81);
        due("the book is as it was", x.count(2), 1);
        HelpedOnlyOnce y = told("p00,0000;p00,9000;n00910;");
        due("all of it", y.worth(1, 0), 81);
        due("all of it the other way", y.worth(0, 1), 81);
        y.year();
        due("over", y.worth(1, 0), 0);
    }

    private static void worthByTheLaw() {
        of("such a help now (GRAVE 9; it counts by the LAW)");
        HelpedOnlyOnce x = told("p00,0000;p00,1000;l393;n00110;n00112;n00919;");
        for (int size = 0; size <= 9; size++) {
            x.set(SIZE, size);
            due("SIZE " + size, x.worth(1, 0), size > 1 ? 11 : 9);
        }
        x.set(LAW, ONE);
        due("ONE", x.worth(1, 0), 9);
        due("ONE, the other way", x.worth(0, 1), 0);
        x.set(LAW, BOTH);
        due("BOTH", x.worth(1, 0), 9);
        due("BOTH, the other way", x.worth(0, 1), 9);
        x.set(LAW, YEARS);
        int[] most = {11, 11, 10, 10, 10, 10, 10, 10, 10};
        int[] then = {10, 10, 9, 9, 9, 9, 9, 9, 9};
        for (int span = 1; span <= 9; span++) {
            x.set(SPAN, span);
            due("MOST by SPAN " + span, x.most(), most[span - 1]);
            due("worth by SPAN " + span, x.worth(1, 0), most[span - 1] - then[span - 1]);
        }
        x.year();
        due("of YEAR 1 by SPAN 9", x.worth(1, 0), 9);
        x.set(SPAN, 8);
        due("of YEAR 1 by SPAN 8", x.worth(1, 0), 0);
    }

    private static void keepsAtTheEnds() {
        of("KEEPS: the one whose PAIR is worth most, of several the least; -9 nobody is worth anything");
        HelpedOnlyOnce x = told("p00,0000;p00,1000;p00,2000;p00,2000;");
        due("no NEEDS", x.keeps(0), -9);
        tell(x, "n00110;");
        due("either of two is there", x.keeps(0), -9);
        tell(x, "n00110;");
        due("2 and 3, each worth 1", x.keeps(0), 2);
        tell(x, "n00110;n00110;");
        due("all are needed", x.keeps(0), 2);
        x.move(3, 0);
        x.set(LAW, SMALL);
        x.set(SIZE, 9);
        due("none is SPENT but by such a help", x.keeps(0), -9);
        HelpedOnlyOnce one = told("p00,0000;p00,1000;n00910;");
        due("worth 9", one.keeps(0), 1);
        due("the other way by BOTH", one.keeps(1), 0);
        one.set(LAW, ONE);
        due("the other way by ONE", one.keeps(1), -9);
        due("one alone", told("p00,1000;n00910;").keeps(0), -9);
        HelpedOnlyOnce last = told("p00,0000;" + times("p00,1000;", 5) + "p00,2000;n00110;");
        due("the last of seven", last.keeps(0), 6);
    }

    private static void lastsNone() {
        of("LASTS: how many years till somebody goes without (30 at most)");
        for (int rule = NEAR; rule <= TOLD; rule++) {
            due("one alone, RULE " + rule, told("p40,9999;").lasts(rule, 0), 0);
        }
        HelpedOnlyOnce two = told("p40,1000;p40,1000;");
        due("two GUESTS", two.lasts(NEAR, 0), 30);
        due("two GUESTS by KEEP", two.lasts(KEEP, 0), 30);
        due("who can't do it, by KEEP", two.lasts(KEEP, 1), 0);
        due("two GUESTS by KIN", two.lasts(KIN, 0), 0);
        due("no ROW", two.lasts(TOLD, 0), 0);
        two.row(0);
        due("one in the ROW", two.lasts(TOLD, 0), 0);
        two.row(1);
        due("both in the ROW", two.lasts(TOLD, 0), 30);
        HelpedOnlyOnce seven = told(times("p40,1000;", 7));
        due("seven GUESTS", seven.lasts(NEAR, 3), 30);
        due("seven GUESTS by KIN", seven.lasts(KIN, 3), 30);
        HelpedOnlyOnce far = told("p60,1000;p620,1000;");
        due("20 minutes, by BOTH", far.lasts(NEAR, 0), 0);
        far.set(LAW, ONE);
        due("20 minutes, by ONE", far.lasts(NEAR, 0), 1);
        far.move(1, 21);
        due("21 minutes, by ONE", far.lasts(NEAR, 0), 0);
    }

    private static void lastsByLaws() {
        of("each year, from this YEAR on, each one of PEOPLE by numbers NEEDS HELP h once");
        for (int people = 2; people <= 7; people++) {
            HelpedOnlyOnce x = told(times("p00,1111;", people) + "l113;");
            due("ONE, " + people, x.lasts(NEAR, 0), people - 1);
            x.set(LAW, YEARS);
            due("YEARS, SPAN 1, " + people, x.lasts(NEAR, 0), people > 2 ? 30 : 0);
            x.set(LAW, SMALL);
            x.set(SIZE, 6);
            due("SMALL, SIZE 6, " + people, x.lasts(NEAR, 0), 30);
        }
        HelpedOnlyOnce three = told(times("p00,1111;", 3) + "l223;");
        due("three, SPAN 2", three.lasts(NEAR, 0), 1);
        three.set(LAW, BOTH);
        due("three, BOTH", three.lasts(NEAR, 0), 1);
        HelpedOnlyOnce guest = told("p40,1000;p00,1000;p00,1000;");
        // 1 helps the GUEST, the GUEST both others: then 2 is SPENT for the GUEST, too
        due("a GUEST and two, BOTH", guest.lasts(NEAR, 0), 1);
        guest.set(LAW, ONE);
        // by ONE each of the others helps the GUEST once
        due("a GUEST and two, ONE", guest.lasts(NEAR, 0), 2);
    }

    private static void lastsFromThisYear() {
        of("in mind, from this YEAR on, by the book as it is");
        HelpedOnlyOnce x = told(times("p00,1111;", 3) + "l233;n00110;");
        due("no help yet", x.lasts(NEAR, 0), 1);
        x.help(1, 0);
        for (int year = 0; year <= 4; year++) {
            due("in YEAR " + year, x.lasts(NEAR, 0), year < 3 ? 0 : 1);
            due("the book is as it was", x.count(2), 1);
            due("the YEAR is as it was", x.count(4), year);
            x.year();
        }
        HelpedOnlyOnce late = told("p40,1111;p40,1111;");
        years(late, 99);
        due("beyond YEAR 99", late.lasts(NEAR, 0), 30);
        due("count(4)", late.count(4), 99);
    }

    private static void lastsByGrave() {
        of("NEEDS HELP h once (GRAVE 5, one HAND)");
        HelpedOnlyOnce x = told("p00,1000;p00,1000;l133;");
        for (int minutes = 0; minutes <= 99; minutes++) {
            x.move(1, minutes);
            due("KEEP, 5 less " + minutes + " by 10", x.lasts(KEEP, 0), minutes < 50 ? 1 : 0);
        }
        HelpedOnlyOnce y = told(times("p00,1000;", 3) + "l330;");
        for (int size = 0; size <= 9; size++) {
            y.set(SIZE, size);
            due("SIZE " + size, y.lasts(NEAR, 0), size <= 5 ? 1 : 30);
        }
        HelpedOnlyOnce helps = told("p00,1000;p00,1000;l133;");
        for (int help = 0; help <= 3; help++) {
            due("KEEP, HELP " + help, helps.lasts(KEEP, help), help == 0 ? 1 : 0);
        }
        HelpedOnlyOnce aside = told("p00,1000;p00,1000;l133;n00910;n10910;n00110;n10110;");
        due("told NEEDS left aside", aside.lasts(KEEP, 0), 1);
        due("NEEDS are as they were", aside.count(1), 4);
        due("the first is as it was", aside.need(0, 2), 9);
        due("none has helped", aside.need(0, 5), 0);
    }

    private static void many() {
        of("BOTH, YEARS, SMALL 2 n and 1; ONE n and 1");
        HelpedOnlyOnce x = new HelpedOnlyOnce();
        int[] times = {1, 2, 3, 500, 998, 999};
        for (int n : times) {
            due("BOTH " + n, x.many(BOTH, n), 2 * n + 1);
            due("ONE " + n, x.many(ONE, n), n + 1);
            due("YEARS " + n, x.many(YEARS, n), 2 * n + 1);
            due("SMALL " + n, x.many(SMALL, n), 2 * n + 1);
        }
    }

    private static void bestPlaceAtTheEnds() {
        of("BEST PLACE: of 0, 10, .. 90");
        for (int place = 0; place <= 99; place++) {
            HelpedOnlyOnce x = told("p0" + place + ",0000;p00,9000;n00910;");
            // minutes by 10 are 0 within 9 minutes on either side; the least of two is the one below
            due("nearest to " + place, x.bestPlace(1), place / 10 * 10);
        }
        HelpedOnlyOnce y = told("p099,0000;p05,9000;n00910;");
        due("not 99", y.bestPlace(1), 90);
        due("PLACE as it was", y.person(1, 1), 5);
        due("no NEED of the other", y.bestPlace(0), 0);
    }

    private static void bestPlaceOfSeveral() {
        of("at which RUN by SKILLED is greatest, of several the least");
        due("no NEEDS", told("p099,0000;").bestPlace(0), 0);
        HelpedOnlyOnce x = told("p045,0000;p012,9000;n00910;");
        due("40 and 50, 5 minutes each", x.bestPlace(1), 40);
        x.move(0, 40);
        due("31 to 49", x.bestPlace(1), 40);
        x.move(0, 41);
        due("32 to 50", x.bestPlace(1), 40);
        x.move(0, 49);
        due("40 to 58", x.bestPlace(1), 40);
        HelpedOnlyOnce guest = told("p099,0000;p450,9000;n00910;");
        due("a GUEST anywhere", guest.bestPlace(1), 0);
        HelpedOnlyOnce shy = told("p099,0000;p65,9000;n00110;");
        due("a SHY one: half of 9 less 1 at 80 as half of 9 at 90", shy.bestPlace(1), 80);
        shy.move(0, 0);
        due("a SHY one: half of 9 at 0", shy.bestPlace(1), 0);
        HelpedOnlyOnce nothing = told("p099,0000;p05,0000;n00910;");
        due("nothing to be had anywhere", nothing.bestPlace(1), 0);
    }

    private static void strangersEachOnce() {
        of("STRANGERS: OUT of them help, each once: as long as there are some (GOOD: GRAVE times 3)");
        HelpedOnlyOnce x = told("p00,0000;n00130;n00210;n00912;n00321;n00439;");
        // HANDS as they come: 1 1 1, 2, then of YEAR 1 3 3, of YEAR 2 9, of YEAR 9 4 4 4
        int[] want = {0, 3, 6, 9, 15, 24, 33, 60, 72, 84};
        for (int out = 0; out <= 9; out++) {
            x.set(OUT, out);
            due("OUT " + out, x.strangers(NEAR), want[out]);
            due("RUN knows none of them", x.run(NEAR), 0);
            due("HANDS left know none of them", x.without(NEAR), 10);
        }
        due("OUT as it was", setting(x, OUT), 9);
        x.year();
        due("9 from YEAR 1", x.strangers(NEAR), 9 + 9 + 27 + 12 + 12 + 12);
        years(x, 9);
        due("from YEAR 10", x.strangers(NEAR), 0);
        HelpedOnlyOnce none = new HelpedOnlyOnce();
        none.set(OUT, 9);
        due("no NEEDS", none.strangers(NEAR), 0);
    }

    private static void strangersOnlyForNobody() {
        of("a HAND for which the RULE chooses nobody is had by a stranger");
        HelpedOnlyOnce x = told("p00,0000;p00,0000;n00920;n00911;");
        x.set(OUT, 1);
        due("the only one helps for nothing", x.strangers(NEAR), 27);
        due("KEEP lets nobody: the first HAND", x.strangers(KEEP), 27);
        x.set(OUT, 2);
        due("two HANDS left", x.strangers(NEAR), 54);
        x.set(OUT, 3);
        due("more than HANDS", x.strangers(NEAR), 54);
        due("all by strangers", x.strangers(KEEP), 81);
        x.help(1, 0);
        due("HANDS that are left", x.strangers(KEEP), 54);
    }

    private static void smallestOfSizes() {
        of("SMALLEST: the SIZE 0 .. 9 with which, by LAW SMALL, RUN by SKILLED is greatest, of several the least");
        for (int grave = 1; grave <= 9; grave++) {
            HelpedOnlyOnce x = told("p00,0000;p00,1000;n00" + grave + "10;n00910;");
            due("the first is of GRAVE " + grave, x.smallest(), grave < 9 ? grave + 1 : 0);
            due("LAW as it was", x.count(7), 0);
            due("SIZE as it was", setting(x, SIZE), 3);
        }
        due("no NEEDS", told("p00,9999;").smallest(), 0);
        HelpedOnlyOnce y = told("p00,0000;p00,1000;n00510;n00210;n00310;");
        // 5 alone till SIZE 5; all three with 6
        due("from 6 on", y.smallest(), 6);
        y.set(LAW, SMALL);
        y.set(SIZE, 9);
        due("whatever SIZE is", y.smallest(), 6);
        HelpedOnlyOnce z = told("p00,1000;p00,1200;n00210;n01910;n10310;");
        // of 1 for 0: 2, then 18; of 0 for 1: 3
        due("from SIZE 3 on 2 and 18, and not 3", z.smallest(), 3);
    }

    private static void byAnotherLaw() {
        of("BY LAW: RUN by a RULE by another LAW (SPAN, SIZE as they are)");
        HelpedOnlyOnce x = told("p00,1000;p00,1000;n00110;n10210;n00311;n00414;");
        for (int law = 0; law <= 3; law++) {
            x.set(LAW, law);
            int[] want = {1, 3, 5, 6};
            for (int by = 0; by <= 3; by++) {
                due("byLaw(" + by + ", NEAR) in LAW " + law, x.byLaw(by, NEAR), want[by]);
            }
            due("RUN by it", x.run(NEAR), want[law]);
            due("LAW as it was", x.count(7), law);
        }
        x.set(SPAN, 1);
        due("SPAN 1", x.byLaw(YEARS, NEAR), 8);
        x.set(SPAN, 4);
        due("SPAN 4", x.byLaw(YEARS, NEAR), 5);
        x.set(SPAN, 5);
        due("SPAN 5", x.byLaw(YEARS, NEAR), 1);
        int[] bySize = {1, 1, 3, 6, 10, 10, 10, 10, 10, 10};
        for (int size = 0; size <= 9; size++) {
            x.set(SIZE, size);
            due("SIZE " + size, x.byLaw(SMALL, NEAR), bySize[size]);
        }
    }

    // the DRAWS once more, with longs that do not wrap by themselves
    private static long next(long z) {
        return (z * 1103515245L + 12345L) & 0xffffffffL;
    }

    private static int draw(long z, int below) {
        return (int) ((z & 0x7fffffffL) / 65536L % below);
    }

    private static int seedsOfGuests(int[][] skills, int years, int seed) {
        long z = seed & 0xffffffffL;
        int sum = 0;
        for (int need = 0; need < 3 * years; need++) {
            z = next(z);
            int who = draw(z, skills.length);
            z = next(z);
            int help = draw(z, 4);
            z = next(z);
            int grave = 1 + draw(z, 9);
            int best = 0;
            for (int one = 0; one < skills.length; one++) {
                best = one == who ? best : Math.max(best, skills[one][help] * grave);
            }
            sum += best;
        }
        return sum;
    }

    private static final int[] SOME_SEEDS = {0, 1, -1, 2, 12345, GREATEST, LEAST, GREATEST - 1, LEAST + 1, 1103515245, -1103515245};

    private static void draws() {
        of("each year 3 NEEDS: WHO a DRAW below how many PEOPLE, HELP a DRAW below 4, GRAVE 1 and a DRAW below 9");
        int[][] skills = {{1, 2, 3, 4}, {5, 6, 7, 8}, {9, 0, 2, 1}, {3, 3, 9, 0}, {0, 8, 1, 9}, {2, 7, 4, 6}, {8, 1, 8, 2}};
        StringBuilder town = new StringBuilder();
        for (int people = 1; people <= 7; people++) {
            town.append("p40,");
            for (int skill : skills[people - 1]) {
                town.append(skill);
            }
            town.append(';');
            int[][] some = java.util.Arrays.copyOf(skills, people);
            HelpedOnlyOnce x = told(town.toString());
            for (int seed : SOME_SEEDS) {
                for (int n : new int[] {1, 2, 9, 10}) {
                    due("seeds(SKILLED, " + n + ", " + seed + ") of " + people, x.seeds(SKILLED, n, seed), seedsOfGuests(some, n, seed));
                }
            }
        }
    }

    private static void drawsWrap() {
        of("z becomes z times 1103515245 plus 12345 (an int, wrapping); (z without its sign's bit, over 65536, cut) modulo n");
        // from seed 1: 16838 5758 10113, 17515 31051 5627, 23010 7419 16212; GRAVES 7, 3, 4
        HelpedOnlyOnce x = told("p40,1111;p40,1111;");
        due("GRAVES of seed 1", x.seeds(SKILLED, 1, 1), 7 + 3 + 4);
        // WHO 0, 1, 0; HELPS 2, 3, 3
        HelpedOnlyOnce y = told("p40,0001;p40,0020;");
        due("1 for 0 with HELP 2, 0 for 1 with HELP 3", y.seeds(SKILLED, 1, 1), 2 * 7 + 3);
        due("once more", y.seeds(SKILLED, 1, 1), 2 * 7 + 3);
        // the sign's bit is above all that a DRAW looks at
        due("the least seed as 0", x.seeds(SKILLED, 10, LEAST), x.seeds(SKILLED, 10, 0));
        due("-1 as the greatest seed", x.seeds(SKILLED, 10, -1), x.seeds(SKILLED, 10, GREATEST));
        due("one above the least seed as 1", x.seeds(SKILLED, 1, LEAST + 1), 7 + 3 + 4);
    }

    private static void seedsYears() {
        of("n YEARS (1 .. 10), in mind, told NEEDS left aside");
        // two of KIND PERSON, SPAN s: one of the first three NEEDS, then again s years on
        for (int span = 1; span <= 9; span++) {
            HelpedOnlyOnce x = told("p00,1111;p00,1111;l2" + span + "3;n00910;n10910;");
            for (int n = 1; n <= 10; n++) {
                long z = 77;
                int sum = 0;
                for (int need = 0; need < 3 * n; need++) {
                    z = next(next(next(z)));
                    sum += need % (3 * span) == 0 ? 1 + draw(z, 9) : 0;
                }
                due("SPAN " + span + ", " + n + " years", x.seeds(NEAR, n, 77), sum);
            }
            due("YEAR as it was", x.count(4), 0);
            due("book as it was", x.count(2), 0);
            due("NEEDS as they were", x.count(1), 2);
        }
        HelpedOnlyOnce book = told("p00,1111;p00,1111;l223;n00110;");
        long second = next(next(next(next(next(next(next(next(next(next(next(next(77))))))))))));
        int ofSecondYear = 1 + draw(second, 9);
        book.help(1, 0);
        due("SPENT in YEAR 0", book.seeds(NEAR, 1, 77), 0);
        due("SPENT in YEAR 1", book.seeds(NEAR, 2, 77), 0);
        book.year();
        due("from YEAR 1: SPENT", book.seeds(NEAR, 1, 77), 0);
        due("from YEAR 1: free in YEAR 2", book.seeds(NEAR, 2, 77), ofSecondYear);
        due("one alone", told("p40,9999;").seeds(SKILLED, 10, 5), 0);
        HelpedOnlyOnce late = told("p40,1111;p40,1111;");
        years(late, 99);
        due("beyond YEAR 99", late.seeds(SKILLED, 10, 5), seedsOfGuests(new int[][] {{1, 1, 1, 1}, {1, 1, 1, 1}}, 10, 5));
        due("YEAR as it was", late.count(4), 99);
        HelpedOnlyOnce keep = told("p40,1111;p40,1111;n00910;n00910;n10910;n10910;");
        due("no LOSS by told NEEDS", keep.seeds(KEEP, 10, 5), seedsOfGuests(new int[][] {{1, 1, 1, 1}, {1, 1, 1, 1}}, 10, 5));
    }

    private static void judgedAtTheEnds() {
        of("JUDGED: the place of the first who MAY not; -9; where it ends, if it is too short; how many HANDS, if it is too long");
        due("none for none", judged(new HelpedOnlyOnce()), -9);
        HelpedOnlyOnce x = told("p00,0000;p40,0000;p40,0000;n00120;n00110;n00112;");
        due("none for three", judged(x), 0);
        due("one for three", judged(x, 1), 1);
        due("two for three", judged(x, 1, 2), 2);
        due("three for three", judged(x, 1, 2, 1), -9);
        due("four for three", judged(x, 1, 2, 1, 2), 3);
        due("ten for three", judged(x, 1, 2, 1, 2, 1, 2, 1, 2, 1, 2), 3);
        due("the first MAY not", judged(x, 0, 2, 1), 0);
        due("the second MAY not", judged(x, 1, 1, 1), 1);
        due("the third MAY not", judged(x, 1, 2, 0), 2);
        due("the third MAY not, too long", judged(x, 1, 2, 0, 1), 2);
        due("the fourth has no HAND", judged(x, 1, 2, 1, 0), 3);
        due("the second MAY not, too short", judged(x, 1, 0), 1);
        x.year();
        due("none for none of this YEAR", judged(x), -9);
        due("one for none", judged(x, 1), 0);
        due("one who MAY never, for none", judged(x, 0), 0);
    }

    private static void judgedTen() {
        of("A ROW of PEOPLE (10 at most), JUDGED");
        HelpedOnlyOnce x = told("p00,0000;p40,0000;" + times("n00110;", 9));
        int[] ten = {1, 1, 1, 1, 1, 1, 1, 1, 1, 1};
        due("ten for nine", judged(x, ten), 9);
        tell(x, "n00110;");
        due("ten for ten", judged(x, ten), -9);
        tell(x, "n00110;");
        due("ten for eleven", judged(x, ten), 10);
        ten[9] = 0;
        due("the tenth MAY not", judged(x, ten), 9);
        due("the ROW takes ten again", judged(x, ten), 9);
    }

    private static void judgedWhoIsGone() {
        of("the first who MAY not (one who is not there any more, too)");
        HelpedOnlyOnce x = told("p00,0000;p40,0000;n00120;n00110;");
        x.image();
        tell(x, "p40,0000;");
        x.row(1);
        x.row(2);
        x.row(1);
        due("all three are there", x.chosen(TOLD, 0), 1);
        x.restore();
        due("2 is not there", x.person(2, 0), -1);
        due("the ROW is as it was", x.count(6), 3);
        due("JUDGED", x.judge(), 1);
        due("the ROW has none then", x.count(6), 0);
        tell(x, "p40,0000;");
        due("there again", judged(x, 1, 2, 1), -9);
        x.row(2);
        x.row(1);
        x.restore();
        due("TOLD passes who is not there", x.chosen(TOLD, 0), 1);
        due("the first is not there", x.judge(), 0);
        tell(x, "p40,0000;");
        x.row(1);
        x.row(2);
        tell(x, "p40,0000;");
        due("there as another", judged(x, 1), -9);
    }

    private static void judgedHands() {
        of("HANDS of OPEN NEEDS as they come (each NEED as often as HANDS are left), each by the next one of the ROW (in mind)");
        HelpedOnlyOnce x = told("p00,0000;p00,0000;p00,0000;p00,0000;n00130;n10110;n00111;n20110;");
        due("all HANDS", judged(x, 3, 2, 1, 2, 3), -9);
        due("0 and 1 SPENT in mind", judged(x, 3, 2, 1, 0, 3), 3);
        due("0 and 1 SPENT in mind, too short", judged(x, 3, 2, 1, 0), 3);
        due("free in fact", x.may(0, 1), 1);
        x.help(2, 0);
        due("a HAND less", judged(x, 3, 1, 2, 3), -9);
        due("who has helped", judged(x, 3, 2, 1, 3), 1);
        x.set(LAW, SMALL);
        due("GRAVE 1 counts not, but not twice with one NEED", judged(x, 2), 0);
        due("nor twice in mind", judged(x, 3, 3), 1);
        due("then for another", judged(x, 3, 1, 3, 3), -9);
        x.help(1, 0);
        x.help(3, 0);
        due("a NEED less", judged(x, 0, 0), -9);
        due("no HAND in mind was had", x.need(1, 5), 0);
        due("the book", x.count(2), 3);
    }
}
