/** Each boundary that "Terms", first part, names: PEOPLE, NEEDS, LAWS, GOOD, MAY, OPEN, TOWNS told in letters. */
public final class BoundaryTermsTest extends Check {
    public static void main(String[] args) {
        people();
        peopleInOneText();
        kinds();
        places();
        skills();
        needs();
        needsInOneText();
        whoOfNeeds();
        numbersOfNeeds();
        lawsTold();
        settingsAtFirst();
        lawBoth();
        lawOne();
        lawYears();
        lawYearsFromTheHelp();
        lawSmall();
        severalHelpsOfAPair();
        lawAsItIsNow();
        goodByMinutes();
        goodOfKinds();
        goodAtTheEnds();
        goodOfShy();
        mayOneself();
        mayOfGuest();
        mayOfShy();
        openByYear();
        openByHands();
        notTwiceWithOneNeed();
        letterByLetter();
        letterBehindAStatement();
        sixtyFourLetters();
        atLeastOneStatement();
        letterFaultsFirst();
        statementsBehindAllAhead();
        withOneNothing();
        end("BoundaryTermsTest");
    }

    private static void people() {
        of("A TOWN has PEOPLE 0 .. 6 as they come");
        HelpedOnlyOnce x = new HelpedOnlyOnce();
        for (int one = 0; one <= 6; one++) {
            due("count(0)", x.count(0), one);
            due("person(" + one + ", 1) before it comes", x.person(one, 1), -1);
            due("one more", feedAll(x, "p0" + (one + 10) + ",0000;"), 1);
            due("person(" + one + ", 1)", x.person(one, 1), one + 10);
        }
        due("the eighth", feedAll(x, "p099,0000;"), -2000);
        due("count(0)", x.count(0), 7);
        due("person(7, 1)", x.person(7, 1), -1);
        for (int one = 0; one <= 6; one++) {
            due("person(" + one + ", 1) as it was", x.person(one, 1), one + 10);
        }
    }

    private static void peopleInOneText() {
        of("PEOPLE 0 .. 6; no room");
        HelpedOnlyOnce x = new HelpedOnlyOnce();
        due("seven in one text", feedAll(x, times("p00,0000;", 7)), 7);
        due("count(0)", x.count(0), 7);
        HelpedOnlyOnce y = told("p05,1234;");
        due("seven more in one text", feedAll(y, times("p00,0000;", 7)), -2054);
        due("count(0) as it was", y.count(0), 1);
        due("six more in one text", feedAll(y, times("p00,0000;", 6)), 6);
        due("count(0) full", y.count(0), 7);
        due("one more", feedAll(y, "p00,0000;"), -2000);
        due("a NEED of the last", feedAll(y, "n60110;"), 1);
    }

    private static void kinds() {
        of("KINDS: 0 PERSON .. 6 SHY");
        for (int kind = 0; kind <= 9; kind++) {
            HelpedOnlyOnce x = new HelpedOnlyOnce();
            due("town of KIND " + kind, feedAll(x, "p" + kind + "0,0000;"), kind <= 6 ? 1 : -2000);
            due("count(0)", x.count(0), kind <= 6 ? 1 : 0);
            due("KIND", x.person(0, 0), kind <= 6 ? kind : -1);
        }
    }

    private static void places() {
        of("a PLACE (0 .. 99); PLACE (1 or 2 digits)");
        for (int place = 0; place <= 99; place++) {
            due("PLACE " + place, told("p0" + place + ",0000;").person(0, 1), place);
        }
        for (int place = 0; place <= 9; place++) {
            due("PLACE 0" + place, told("p00" + place + ",0000;").person(0, 1), place);
        }
        due("no digit", feedAll(new HelpedOnlyOnce(), "p0,0000;"), -1002);
        due("three digits", feedAll(new HelpedOnlyOnce(), "p0100,0000;"), -1004);
    }

    private static void skills() {
        of("SKILLS for HELPS 0 .. 3 (0 .. 9 each)");
        for (int help = 0; help <= 3; help++) {
            for (int skill = 0; skill <= 9; skill++) {
                String digits = times("0", help) + skill + times("0", 3 - help);
                HelpedOnlyOnce x = told("p00," + digits + ";p077," + digits + ";");
                for (int other = 0; other <= 3; other++) {
                    int want = other == help ? skill : 0;
                    due("SKILL for HELP " + other + " of " + digits, x.person(0, 2 + other), want);
                    due("behind two digits", x.person(1, 2 + other), want);
                }
            }
        }
    }

    private static void needs() {
        of("NEEDS (12 at most, in the order in which they come)");
        HelpedOnlyOnce x = told("p00,0000;");
        for (int need = 0; need < 12; need++) {
            due("need(" + need + ", 2) before it comes", x.need(need, 2), -1);
            due("one more", feedAll(x, "n00" + (1 + need % 9) + "1" + need % 10 + ";"), 1);
            due("count(1)", x.count(1), need + 1);
        }
        due("the thirteenth", feedAll(x, "n00110;"), -2000);
        due("count(1) full", x.count(1), 12);
        due("need(12, 2)", x.need(12, 2), -1);
        for (int need = 0; need < 12; need++) {
            due("need(" + need + ", 2)", x.need(need, 2), 1 + need % 9);
            due("need(" + need + ", 4)", x.need(need, 4), need % 10);
        }
        due("PEOPLE have room all the same", feedAll(x, "p00,0000;"), 1);
    }

    private static void needsInOneText() {
        of("NEEDS (12 at most ..); no room");
        HelpedOnlyOnce x = told("p00,0000;" + times("n00110;", 4));
        due("eight more make twelve", feedAll(x, times("n00110;", 8)), 8);
        due("count(1)", x.count(1), 12);
        HelpedOnlyOnce y = told("p00,0000;" + times("n00110;", 5));
        due("eight more make thirteen", feedAll(y, times("n00110;", 8)), -2049);
        due("count(1) as it was", y.count(1), 5);
    }

    private static void whoOfNeeds() {
        of("WHO (one of PEOPLE); nobody there");
        for (int people = 0; people <= 7; people++) {
            HelpedOnlyOnce x = told(times("p00,0000;", people));
            for (int who = 0; who <= 9; who++) {
                due("WHO " + who + " of " + people, feedAll(x, "n" + who + "0110;"), who < people ? 1 : -2000);
            }
            due("count(1)", x.count(1), people);
            due("WHO of the last", x.need(people - 1, 0), people - 1);
        }
    }

    private static void numbersOfNeeds() {
        of("a HELP, GRAVE (1 .. 9), HANDS (1 .. 3 helpers), a YEAR (0 .. 9)");
        int[] least = {0, 1, 1, 0};
        int[] greatest = {3, 9, 3, 9};
        for (int what = 0; what < 4; what++) {
            HelpedOnlyOnce x = told("p00,0000;");
            int taken = 0;
            for (int v = 0; v <= 9; v++) {
                String digits = times("1", what) + v + times("1", 3 - what);
                boolean inRange = v >= least[what] && v <= greatest[what];
                due("town of n0" + digits + ";", feedAll(x, "n0" + digits + ";"), inRange ? 1 : -2000);
                due("as told", x.need(taken, 1 + what), inRange ? v : -1);
                taken += inRange ? 1 : 0;
                due("count(1)", x.count(1), taken);
            }
        }
    }

    private static void lawsTold() {
        of("\"l\" LAW, SPAN, SIZE (a digit each)");
        int[] least = {0, 1, 0};
        int[] greatest = {3, 9, 9};
        int[] before = {1, 8, 7};
        for (int what = 0; what < 3; what++) {
            for (int v = 0; v <= 9; v++) {
                HelpedOnlyOnce x = told("l187;");
                boolean inRange = v >= least[what] && v <= greatest[what];
                String text = "l" + (what == 0 ? v : 2) + (what == 1 ? v : 4) + (what == 2 ? v : 5) + ";";
                due("town of " + text, feedAll(x, text), inRange ? 1 : -2000);
                for (int other = 0; other < 3; other++) {
                    int want = !inRange ? before[other] : other == what ? v : other == 0 ? 2 : 3 + other;
                    due("setting " + other + " behind " + text, setting(x, other), want);
                }
                due("OUT is not told", setting(x, OUT), 0);
            }
        }
    }

    private static void settingsAtFirst() {
        of("0 at first. SPAN (3 at first), SIZE (3 at first). YEAR (0 at first). OUT (0 at first)");
        HelpedOnlyOnce x = new HelpedOnlyOnce();
        due("count(7)", x.count(7), 0);
        due("LAW", setting(x, LAW), 0);
        due("SPAN", setting(x, SPAN), 3);
        due("SIZE", setting(x, SIZE), 3);
        due("OUT", setting(x, OUT), 0);
        due("YEAR", x.count(4), 0);
        due("year()", x.year(), 1);
    }

    private static void lawBoth() {
        of("BOTH (of a pair of whom one has helped the other neither may help the other again)");
        HelpedOnlyOnce x = told("p00,0000;p00,0000;p00,0000;n00110;n20110;n00110;n10110;");
        due("spent(1, 0) before", x.spent(1, 0), 0);
        due("spent(0, 1) before", x.spent(0, 1), 0);
        x.help(1, 0);
        for (int years = 0; years <= 99; years += 33) {
            due("the helper", x.spent(1, 0), 1);
            due("the other way", x.spent(0, 1), 1);
            due("the helper with another", x.spent(1, 2), 0);
            due("another with the helped", x.spent(2, 0), 0);
            due("the helped with another", x.spent(0, 2), 0);
            due("another with the helper", x.spent(2, 1), 0);
            years(x, 33);
        }
        due("in YEAR 99", x.count(4), 99);
        HelpedOnlyOnce y = told("p00,0000;p00,0000;n00110;n00110;n10110;");
        y.help(1, 0);
        due("again", y.help(1, 1), -3);
        due("the other way", y.help(0, 2), -3);
    }

    private static void lawOne() {
        of("ONE (the helper may not help the same one again; the other way is free)");
        HelpedOnlyOnce x = told("p00,0000;p00,0000;p00,0000;l133;n00110;n00110;n10110;n10110;");
        x.help(1, 0);
        due("the helper", x.spent(1, 0), 1);
        due("the other way", x.spent(0, 1), 0);
        due("the helper with another", x.spent(1, 2), 0);
        due("another with the helped", x.spent(2, 0), 0);
        due("again", x.help(1, 1), -3);
        due("the other way", x.help(0, 2), 0);
        due("the other way then", x.spent(0, 1), 1);
        due("the other way again", x.help(0, 3), -3);
        years(x, 99);
        due("for ever", x.spent(1, 0), 1);
        due("for ever the other way", x.spent(0, 1), 1);
    }

    private static void lawYears() {
        of("YEARS (as BOTH, but SPAN years on, counted from the YEAR of the help, all is as if it had not been)");
        HelpedOnlyOnce x = told("p00,0000;p00,0000;l233;n00110;");
        x.help(1, 0);
        for (int year = 0; year <= 10; year++) {
            for (int span = 1; span <= 9; span++) {
                x.set(SPAN, span);
                due("SPAN " + span + ", " + year + " years on", x.spent(1, 0), year < span ? 1 : 0);
                due("SPAN " + span + ", " + year + " years on, the other way", x.spent(0, 1), year < span ? 1 : 0);
            }
            x.year();
        }
    }

    private static void lawYearsFromTheHelp() {
        of("SPAN years on, counted from the YEAR of the help");
        HelpedOnlyOnce x = told("p00,0000;p00,0000;l223;n00115;n00117;n00118;");
        years(x, 5);
        due("a help in YEAR 5", x.help(1, 0), 0);
        x.year();
        due("in YEAR 6", x.spent(0, 1), 1);
        x.year();
        due("in YEAR 7", x.spent(0, 1), 0);
        due("help again", x.help(1, 1), 0);
        due("SPENT again", x.spent(0, 1), 1);
        x.year();
        due("in YEAR 8, by the later help", x.spent(0, 1), 1);
        due("help in YEAR 8", x.help(1, 2), -3);
        x.year();
        due("in YEAR 9", x.spent(0, 1), 0);
    }

    private static void lawSmall() {
        of("SMALL (as BOTH, but a help for a NEED with GRAVE below SIZE does not count)");
        for (int grave = 1; grave <= 9; grave++) {
            HelpedOnlyOnce x = told("p00,0000;p00,0000;l333;n00" + grave + "10;");
            x.help(1, 0);
            for (int size = 0; size <= 9; size++) {
                x.set(SIZE, size);
                due("GRAVE " + grave + ", SIZE " + size, x.spent(1, 0), grave < size ? 0 : 1);
                due("GRAVE " + grave + ", SIZE " + size + ", the other way", x.spent(0, 1), grave < size ? 0 : 1);
            }
            years(x, 50);
            due("for ever by SIZE 9", x.spent(1, 0), grave == 9 ? 1 : 0);
        }
    }

    private static void severalHelpsOfAPair() {
        of("PAIR is SPENT: by some help in the book that counts");
        HelpedOnlyOnce x = told("p00,0000;p00,0000;l333;n00210;n00310;n00910;");
        x.help(1, 0);
        due("one that does not count", x.spent(1, 0), 0);
        x.help(1, 1);
        due("another behind it that does", x.spent(1, 0), 1);
        due("the third", x.help(1, 2), -3);
        HelpedOnlyOnce y = told("p00,0000;p00,0000;p00,0000;l339;n00810;n00110;n20810;");
        y.help(1, 0);
        y.help(1, 1);
        due("none counts by SIZE 9", y.spent(1, 0), 0);
        y.set(SIZE, 8);
        due("the first alone counts by SIZE 8", y.spent(1, 0), 1);
        y.help(0, 2);
        y.set(SIZE, 9);
        due("none counts again", y.spent(0, 1), 0);
        HelpedOnlyOnce none = told("p00,0000;p00,0000;");
        due("an empty book", none.spent(0, 1), 0);
    }

    private static void lawAsItIsNow() {
        of("counts by the LAW as it is now");
        HelpedOnlyOnce x = told("p00,0000;p00,0000;l033;n00210;");
        x.help(1, 0);
        x.year();
        int[][] want = {{1, 1}, {1, 0}, {1, 1}, {0, 0}};
        for (int law = 3; law >= 0; law--) {
            x.set(LAW, law);
            due("spent(1, 0) by LAW " + law, x.spent(1, 0), want[law][0]);
            due("spent(0, 1) by LAW " + law, x.spent(0, 1), want[law][1]);
        }
        x.set(SPAN, 1);
        x.set(LAW, YEARS);
        due("by a SPAN that is over now", x.spent(1, 0), 0);
        tell(x, "l032;");
        due("by a LAW told in letters", x.spent(1, 0), 1);
        tell(x, "l332;");
        due("by a SIZE told in letters", x.spent(1, 0), 1);
    }

    private static void goodByMinutes() {
        of("SKILL for its HELP times GRAVE, less the minutes by 10, cut, 0 at least");
        HelpedOnlyOnce x = told("p00,0000;p00,5100;n00210;n00910;n01110;");
        for (int place = 0; place <= 99; place++) {
            x.move(1, place);
            due("GOOD 10 at " + place + " minutes", x.good(1, 0), 10 - place / 10);
            due("GOOD 1 at " + place + " minutes", x.good(1, 2), place < 10 ? 1 : 0);
        }
        x.move(0, 99);
        x.move(1, 0);
        due("99 minutes up the lane", x.good(1, 1), 36);
    }

    private static void goodOfKinds() {
        of("DOCTOR: twice as much for HELP 0; CHILD: half, cut; OLD: less 5, 0 at least; NURSE: a DOCTOR's and 3");
        HelpedOnlyOnce x = told("p00,0000;p09,9999;p19,9999;p29,9999;p39,9999;p49,9999;p59,9999;");
        // the SKILL is 9 for each; 9 minutes are less than 10
        tell(x, "n00110;n01110;n02110;n03110;n00910;n03910;");
        int[][] want = {
            {9, 18, 4, 4, 9, 21},
            {9, 9, 4, 4, 9, 12},
            {9, 9, 4, 4, 9, 12},
            {9, 9, 4, 4, 9, 12},
            {81, 162, 40, 76, 81, 165},
            {81, 81, 40, 76, 81, 84}};
        for (int need = 0; need < want.length; need++) {
            for (int one = 1; one <= 6; one++) {
                due("good(" + one + ", " + need + ")", x.good(one, need), want[need][one - 1]);
            }
        }
        // 50 minutes: 5 less, but for the GUEST
        x.move(0, 59);
        int[] far = {4, 8, 2, 0, 9, 11};
        for (int one = 1; one <= 6; one++) {
            due("good(" + one + ", 0) from 50 minutes", x.good(one, 0), far[one - 1]);
        }
    }

    private static void goodAtTheEnds() {
        of("0 at least; half, cut; a PERSON's less 5, 0 at least; and 3");
        // GOODS of a PERSON: 0 .. 7 by the SKILL, GRAVE 1
        for (int skill = 0; skill <= 7; skill++) {
            String d = "0" + skill + "00;";
            HelpedOnlyOnce x = told("p00,0000;p00," + d + "p10," + d + "p20," + d + "p30," + d + "p40," + d + "p50," + d + "n01110;");
            int[] want = {0, skill, skill, skill / 2, skill > 5 ? skill - 5 : 0, skill, skill + 3};
            for (int one = 0; one <= 6; one++) {
                due("good(" + one + ", 0), SKILL " + skill, x.good(one, 0), want[one]);
            }
        }
        // 9 is the most that minutes take
        HelpedOnlyOnce far = told("p099,0000;p00,8000;p10,8000;p20,8000;p30,8000;p40,8000;p50,8000;n00110;");
        int[] want = {0, 0, 0, 0, 0, 8, 3};
        for (int one = 0; one <= 6; one++) {
            due("good(" + one + ", 0), 8 less 9", far.good(one, 0), want[one]);
        }
        far.move(0, 89);
        due("8 less 8", far.good(1, 0), 0);
        far.move(0, 79);
        due("8 less 7", far.good(1, 0), 1);
        due("twice 1", far.good(2, 0), 2);
        due("half of 1, cut", far.good(3, 0), 0);
        due("twice 1 and 3", far.good(6, 0), 5);
    }

    private static void goodOfShy() {
        of("SHY: a CHILD's, and nothing if it is more than 20 minutes off");
        HelpedOnlyOnce x = told("p050,0000;p650,9000;n00910;");
        for (int place = 0; place <= 99; place++) {
            x.move(1, place);
            int minutes = place < 50 ? 50 - place : place - 50;
            due("SHY at " + minutes + " minutes", x.good(1, 0), minutes > 20 ? 0 : minutes == 20 ? 39 : 40);
        }
    }

    private static void mayOneself() {
        of("One MAY help another one, who is not itself");
        for (int kind = 0; kind <= 6; kind++) {
            HelpedOnlyOnce x = told("p" + kind + "0,9999;n00110;");
            due("KIND " + kind + ": may(0, 0)", x.may(0, 0), 0);
            due("KIND " + kind + ": help(0, 0)", x.help(0, 0), -3);
            due("KIND " + kind + ": chosen(NEAR, 0)", x.chosen(NEAR, 0), -9);
        }
    }

    private static void mayOfGuest() {
        of("a GUEST is never SPENT as a helper");
        HelpedOnlyOnce x = told("p40,0000;p00,0000;p40,0000;n10110;n10910;n00110;n00111;n20110;");
        for (int law = 0; law <= 3; law++) {
            x.set(LAW, law);
            x.help(0, 0);
            x.help(0, 1);
            due("helped twice in one YEAR", x.count(2), 2);
            due("GUEST by LAW " + law, x.may(0, 1), 1);
            due("GUEST by LAW " + law, x.spent(0, 1), 0);
            due("to the GUEST by LAW " + law, x.spent(1, 0), law == ONE ? 0 : 1);
            due("to the GUEST by LAW " + law, x.may(1, 0), law == ONE ? 1 : 0);
            x.back();
            x.back();
        }
        x.set(LAW, BOTH);
        due("the first who helps a GUEST", x.help(1, 2), 0);
        due("who is SPENT then", x.spent(1, 0), 1);
        due("not the GUEST", x.spent(0, 1), 0);
        due("GUEST for GUEST", x.help(0, 4), 0);
        due("GUEST back to GUEST", x.may(2, 0), 1);
        due("GUEST to itself", x.may(0, 0), 0);
        for (int kind = 0; kind <= 6; kind++) {
            HelpedOnlyOnce y = told("p00,0000;p" + kind + "0,0000;n00110;");
            y.help(1, 0);
            due("KIND " + kind + " SPENT", y.spent(1, 0), kind == 4 ? 0 : 1);
            due("KIND " + kind + " MAY", y.may(1, 0), kind == 4 ? 1 : 0);
            due("to KIND " + kind + " SPENT", y.spent(0, 1), 1);
            due("to KIND " + kind + " MAY", y.may(0, 1), 0);
        }
    }

    private static void mayOfShy() {
        of("A SHY one MAY help only who is 20 minutes off or nearer");
        HelpedOnlyOnce x = told("p650,9999;p050,0000;n10110;");
        for (int place = 0; place <= 99; place++) {
            x.move(0, place);
            int minutes = place < 50 ? 50 - place : place - 50;
            due("SHY at " + minutes + " minutes", x.may(0, 1), minutes <= 20 ? 1 : 0);
            due("to the SHY one", x.may(1, 0), 1);
        }
        x.move(0, 29);
        due("21 minutes", x.help(0, 0), -3);
        due("nobody else", x.chosen(NEAR, 0), -9);
        x.move(0, 30);
        due("20 minutes", x.chosen(NEAR, 0), 0);
        due("a CHILD's half of 9 less 2", x.help(0, 0), 3);
        due("SPENT as others", x.may(0, 1), 0);
        HelpedOnlyOnce all = told("p00,0000;p099,0000;p199,0000;p299,0000;p399,0000;p499,0000;p599,0000;");
        for (int one = 1; one <= 6; one++) {
            due("another KIND at 99 minutes", all.may(one, 0), 1);
            due("to another KIND at 99 minutes", all.may(0, one), 1);
        }
    }

    private static void openByYear() {
        of("A NEED is OPEN, if it is of the YEAR now");
        HelpedOnlyOnce x = told("p00,0000;p00,1000;n00110;n00114;n00119;");
        for (int year = 0; year <= 11; year++) {
            int want = year == 0 || year == 4 || year == 9 ? 1 : 0;
            due("count(3) in YEAR " + year, x.count(3), want);
            for (int need = 0; need < 3; need++) {
                boolean open = year == x.need(need, 4);
                due("chosen(NEAR, " + need + ") in YEAR " + year, x.chosen(NEAR, need), open ? 1 : -9);
                due("help(1, " + need + ") in YEAR " + year, x.help(1, need), open ? 1 : -3);
                if (open) {
                    due("back()", x.back(), 0);
                }
            }
            x.year();
        }
    }

    private static void openByHands() {
        of("OPEN, if fewer than HANDS have helped with it");
        for (int hands = 1; hands <= 3; hands++) {
            HelpedOnlyOnce x = told("p00,0000;p00,1000;p00,1000;p00,1000;p00,1000;n001" + hands + "0;");
            for (int helped = 0; helped < hands; helped++) {
                due("count(3) of " + hands + ", " + helped + " helped", x.count(3), 1);
                due("chosen(NEAR, 0)", x.chosen(NEAR, 0), helped + 1);
                due("help", x.help(helped + 1, 0), 1);
                due("have helped", x.need(0, 5), helped + 1);
                due("HANDS are as told", x.need(0, 3), hands);
            }
            due("count(3) of " + hands + ", all helped", x.count(3), 0);
            due("chosen(NEAR, 0)", x.chosen(NEAR, 0), -9);
            due("one more", x.help(hands + 1, 0), -3);
            due("have helped", x.need(0, 5), hands);
            due("back()", x.back(), hands - 1);
            due("OPEN again", x.count(3), 1);
            due("one more then", x.help(hands + 1, 0), 1);
        }
    }

    private static void notTwiceWithOneNeed() {
        of("one MAY help with it, if .. one has not helped with it already");
        HelpedOnlyOnce guest = told("p00,0000;p40,1000;p40,2000;n00130;n00130;");
        due("a GUEST", guest.help(1, 0), 1);
        due("MAY help the one", guest.may(1, 0), 1);
        due("not with that NEED", guest.help(1, 0), -3);
        due("with the next", guest.help(1, 1), 1);
        due("chosen for that NEED", guest.chosen(NEAR, 0), 2);
        due("another", guest.help(2, 0), 2);
        due("nobody for the third HAND", guest.chosen(NEAR, 0), -9);
        due("that NEED is OPEN", guest.count(3), 2);
        due("back of the other's", guest.back(), 2);
        due("back of its second", guest.back(), 1);
        due("not with that NEED still", guest.help(1, 0), -3);
        due("with the next again", guest.help(1, 1), 1);
        HelpedOnlyOnce small = told("p00,0000;p00,1000;l339;n00820;");
        due("a help that does not count", small.help(1, 0), 8);
        due("MAY help the one", small.may(1, 0), 1);
        due("not with that NEED", small.help(1, 0), -3);
        due("nor chosen", small.chosen(SKILLED, 0), -9);
        due("nor in a RUN", small.run(SKILLED), 0);
        due("HANDS left", small.without(SKILLED), 1);
        due("nor in MOST", small.most(), 0);
        due("back()", small.back(), 0);
        due("once in a RUN", small.run(SKILLED), 8);
        due("once in MOST", small.most(), 8);
        due("then with it", small.help(1, 0), 8);
    }

    // for each place of a STATEMENT the letters with which a TOWN can go on
    private static void letterByLetter() {
        of("the place of the first letter with which no TOWN can go on (the end, if something lacks)");
        String d = "0123456789";
        lettersOf("p01,2345;", new String[] {"pnl", d, d, d + ",", d, d, d, d, ";"}, "");
        lettersOf("p012,3456;", new String[] {"pnl", d, d, d + ",", ",", d, d, d, d, ";"}, "");
        lettersOf("n00110;", new String[] {"pnl", d, d, d, d, d, ";"}, "");
        lettersOf("l033;", new String[] {"pnl", d, d, d, ";"}, "");
    }

    private static void letterBehindAStatement() {
        of("STATEMENTS, each with \";\" behind");
        String d = "0123456789";
        lettersOf("l033;", new String[] {"pnl", d, d, d, ";"}, "p01,2345;");
        lettersOf("p01,2345;", new String[] {"pnl", d, d, d + ",", d, d, d, d, ";"}, "l119;");
        lettersOf("n00110;", new String[] {"pnl", d, d, d, d, d, ";"}, "p012,3456;n00110;");
    }

    private static void lettersOf(String statement, String[] goOn, String ahead) {
        for (int place = 0; place < statement.length(); place++) {
            String before = ahead + statement.substring(0, place);
            int at = before.length();
            if (place > 0) {
                due("town of " + before, feedAll(new HelpedOnlyOnce(), before), -1000 - at);
            }
            for (int letter = 0; letter <= 255; letter++) {
                boolean goesOn = goOn[place].indexOf(letter) >= 0;
                if (goesOn && place == statement.length() - 1) {
                    continue;
                }
                HelpedOnlyOnce x = new HelpedOnlyOnce();
                feedOnly(x, before);
                x.feed(letter);
                due("town of " + before + " and " + letter, x.town(), goesOn ? -1001 - at : -1000 - at);
                due("nobody came", x.count(0), 0);
            }
        }
    }

    private static void sixtyFourLetters() {
        of("told in letters, one by one (64 at most)");
        HelpedOnlyOnce x = new HelpedOnlyOnce();
        String text = times("p01,1111;", 6) + "p012,1111;";
        due("64 letters", text.length(), 64);
        feedOnly(x, text);
        due("count(5)", x.count(5), 64);
        due("one letter more", x.feed(';'), -6);
        due("count(5) as it was", x.count(5), 64);
        due("a TOWN of 64 letters", x.town(), 7);
        due("count(0)", x.count(0), 7);
        due("the last letters told", x.person(6, 1), 12);
        due("no letters", x.count(5), 0);
        due("a letter then", x.feed('l'), 1);
        HelpedOnlyOnce y = new HelpedOnlyOnce();
        due("63 letters", feedAll(y, times("p01,1111;", 7)), 7);
        HelpedOnlyOnce z = new HelpedOnlyOnce();
        feedOnly(z, times("p01,1111;", 6) + "p012,11111");
        due("the 64th is wrong", z.town(), -1063);
        feedOnly(z, times("p01,1111;", 6) + "p012,1111");
        due("the 64th lacks", z.town(), -1063);
        feedOnly(z, times("p01,1111;", 7) + "l");
        due("the end behind 64 letters", z.town(), -1064);
        due("nobody", z.count(0), 0);
    }

    private static void atLeastOneStatement() {
        of("At least one STATEMENT");
        HelpedOnlyOnce x = new HelpedOnlyOnce();
        due("no letters", x.town(), -1000);
        due("a \";\" alone", feedAll(x, ";"), -1000);
        due("one", feedAll(x, "l033;"), 1);
        due("the letters are no more", x.town(), -1000);
        due("twelve", feedAll(x, times("l033;", 12)), 12);
        for (int what = 11; what <= 16; what++) {
            due("count(" + what + ")", x.count(what), 0);
        }
    }

    private static void letterFaultsFirst() {
        of("FAULT: kind 1 ..; else kind 2");
        HelpedOnlyOnce x = told("p00,0000;");
        due("kind 1 far behind kind 2", feedAll(x, "p70,0000;l033;x"), -1014);
        due("the end behind kind 2", feedAll(x, "p70,0000;l033"), -1013);
        due("kind 2 alone", feedAll(x, "p70,0000;l033;"), -2000);
        due("in one STATEMENT", feedAll(x, "p70,000;"), -1007);
        due("kind 2 behind a right one", feedAll(x, "l033;p70,0000;"), -2005);
        due("the first of two of kind 2", feedAll(x, "l033;l400;p70,0000;"), -2005);
        due("the first of two of kind 1", feedAll(x, "l03;p7;"), -1003);
        due("no FAULT", feedAll(x, "l033;"), 1);
    }

    private static void statementsBehindAllAhead() {
        of("the first STATEMENT that, behind all ahead of it in the text, is not as it must be");
        HelpedOnlyOnce x = new HelpedOnlyOnce();
        due("WHO comes behind", feedAll(x, "n00110;p00,0000;"), -2000);
        due("WHO comes ahead", feedAll(x, "p00,0000;n00110;"), 2);
        due("WHO 1 comes behind", feedAll(x, "n00110;n10110;p00,0000;"), -2007);
        due("count(1) as it was", x.count(1), 1);
        due("WHO 1 comes ahead", feedAll(x, "n00110;p00,0000;n10110;"), 3);
        due("count(1)", x.count(1), 3);
        HelpedOnlyOnce full = told(times("p00,0000;", 6) + times("n00110;", 11));
        due("the seventh, and the eighth", feedAll(full, "p00,0000;p00,0000;"), -2009);
        due("the twelfth, and the thirteenth", feedAll(full, "n00110;n00110;"), -2007);
        due("the seventh, and the twelfth of it", feedAll(full, "p00,0000;n60110;"), 2);
        due("no room", feedAll(full, "l033;n00110;"), -2005);
    }

    private static void withOneNothing() {
        of("Without FAULT all of it comes, with one nothing");
        HelpedOnlyOnce x = told("p05,1111;l255;n00510;");
        String right = "p06,2222;n10610;l166;";
        String[] wrong = {"p71,1111;", "n20110;", "l400;", "l000;", "x", "l033"};
        for (String behind : wrong) {
            due("a FAULT behind " + right, feedAll(x, right + behind) < 0 ? 1 : 0, 1);
            due("count(0)", x.count(0), 1);
            due("count(1)", x.count(1), 1);
            due("count(5)", x.count(5), 0);
            due("person(1, 1)", x.person(1, 1), -1);
            due("need(1, 2)", x.need(1, 2), -1);
            due("LAW", setting(x, LAW), 2);
            due("SPAN", setting(x, SPAN), 5);
            due("SIZE", setting(x, SIZE), 5);
        }
        due("without FAULT", feedAll(x, right), 3);
        due("count(0)", x.count(0), 2);
        due("count(1)", x.count(1), 2);
        due("person(1, 1)", x.person(1, 1), 6);
        due("need(1, 2)", x.need(1, 2), 6);
        due("LAW", setting(x, LAW), 1);
        due("SPAN", setting(x, SPAN), 6);
        due("SIZE", setting(x, SIZE), 6);
    }
}
