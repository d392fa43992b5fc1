import java.io.IOException;
import java.lang.reflect.Constructor;
import java.lang.reflect.Method;
import java.nio.file.Files;
import java.nio.file.Path;
import java.util.ArrayList;
import java.util.Arrays;
import java.util.Collections;
import java.util.List;
import java.util.regex.Matcher;
import java.util.regex.Pattern;

/**
 * The document from its first line to its last: the words of each sentence, in their order and none left out, and
 * behind them calls that would tell if it did not hold.
 */
public final class DocumentTest extends Check {
    private static final Path DOCUMENT = Path.of("../shared/DOC.md");
    // one of each KIND, by the KINDS' numbers
    private static final String SEVEN =
        "p010,5270;p130,4321;p27,3579;p355,6661;p499,1234;p542,2468;p625,9870;";
    private static final String GOODS = SEVEN + "n00630;n01520;n32410;n33110;";
    // 1 does most for each NEED, but for the first one 2 would do
    private static final String EARLY = "p00,0000;p00,3900;p00,2000;p00,1100;n00410;n01611;";

    private static String document = "";
    private static int read = 0;

    public static void main(String[] args) throws IOException {
        // without the document the calls are as good, only nobody looks whether a sentence is left out
        if (Files.exists(DOCUMENT)) {
            String text = Files.readString(DOCUMENT);
            document = text.replaceAll("```\\w*|#", " ").replace("`", "").replaceAll("\\s+", " ").trim();
        }
        whatItIs();
        face();
        town();
        laws();
        book();
        good();
        may();
        letters();
        faults();
        rules();
        loss();
        run();
        most();
        worth();
        lasts();
        places();
        strangersAndLaws();
        seeds();
        row();
        imageAndRefusals();
        promisesOfTheTown();
        promisesOfPairs();
        promisesOfTheBook();
        promisesOfRules();
        promisesOfMost();
        promisesOfThought();
        promisesOfTheRow();
        promisesOfTheImage();
        notPromised();
        end("DocumentTest");
    }

    // the words must be the next ones of the document
    private static void says(String words) {
        of(words);
        if (document.isEmpty()) {
            return;
        }
        while (read < document.length() && document.charAt(read) == ' ') {
            read++;
        }
        due("the document goes on so at sign " + read, document.startsWith(words, read) ? 1 : 0, 1);
        read += words.length();
    }

    private static void whatItIs() {
        says("HelpedOnlyOnce What it is Only strangers may help: people who can help with this and that, well or ill, "
            + "from where they live; needs by years, grave ones and small, for one helper, two or three; pairs of whom "
            + "one has helped the other once, and then, by laws of kinds, never again, or not that way, or not for so "
            + "many years, or not by so little; who may help whom, how good it is, who is chosen by rules of kinds, "
            + "years run by a rule, the most that can be had from all needs that are told, what each pair is worth for "
            + "that, whom to keep, how far a rule is behind, how long all can be helped, how many people a town must "
            + "have, where to move, strangers from another town, how small a help should not count, other laws, years "
            + "by seeds, told helps looked at, towns told in letters, an image. ==== I.");
        HelpedOnlyOnce x = told("p00,5000;p00,5000;p00,5000;n00910;n00920;");
        due("a stranger helps", x.help(1, 0), 45);
        due("no stranger any more", x.help(1, 1), -3);
        due("another stranger", x.help(2, 1), 45);
        says("An object is used for at most 512 calls after it has been made; what later calls answer is free.");
        HelpedOnlyOnce y = new HelpedOnlyOnce();
        for (int call = 1; call <= 511; call++) {
            y.feed(-call);
        }
        due("the 512th call", y.count(14), 511);
    }

    private static void face() {
        says("The public face public final class HelpedOnlyOnce { public HelpedOnlyOnce();");
        Constructor<?>[] made = HelpedOnlyOnce.class.getConstructors();
        due("one constructor", made.length, 1);
        due("of nothing", made[0].getParameterCount(), 0);
        if (document.isEmpty()) {
            return;
        }
        int till = document.indexOf('}', read);
        List<String> told = new ArrayList<>();
        Matcher call = Pattern.compile("public int (\\w+)\\(((?:int \\w+(?:, )?)*)\\);").matcher(document);
        call.region(read, till);
        while (call.find()) {
            told.add(call.group(1) + " " + (call.group(2).isEmpty() ? 0 : call.group(2).split(",").length));
        }
        List<String> found = new ArrayList<>();
        for (Method m : HelpedOnlyOnce.class.getMethods()) {
            boolean ofInts = Arrays.stream(m.getParameterTypes()).allMatch(t -> t == int.class);
            if (m.getDeclaringClass() == HelpedOnlyOnce.class && ofInts && m.getReturnType() == int.class) {
                found.add(m.getName() + " " + m.getParameterCount());
            }
        }
        Collections.sort(told);
        Collections.sort(found);
        due("the face told " + told + ", found " + found, told.equals(found) ? 1 : 0, 1);
        due("how many calls there are", told.size(), 35);
        read = till + 1;
    }

    private static void town() {
        says("Terms A TOWN has PEOPLE 0 .. 6 as they come, of KINDS: 0 PERSON; 1 DOCTOR under PERSON; 2 CHILD under "
            + "PERSON; 3 OLD under PERSON; 4 GUEST under PERSON; 5 NURSE under DOCTOR; 6 SHY under CHILD:");
        HelpedOnlyOnce x = told(SEVEN);
        for (int one = 0; one <= 6; one++) {
            due("KIND of " + one, x.person(one, 0), one);
        }
        due("PEOPLE", x.count(0), 7);
        due("an eighth one", feedAll(x, "p00,0000;"), -2000);
        due("is not there", x.person(7, 0), -1);
        says("a PLACE (0 .. 99 minutes down the lane) and SKILLS for HELPS 0 .. 3 (0 .. 9 each).");
        int[][] people = {{10, 5, 2, 7, 0}, {30, 4, 3, 2, 1}, {7, 3, 5, 7, 9}, {55, 6, 6, 6, 1}, {99, 1, 2, 3, 4},
            {42, 2, 4, 6, 8}, {25, 9, 8, 7, 0}};
        for (int one = 0; one <= 6; one++) {
            for (int what = 1; what <= 5; what++) {
                due("person(" + one + ", " + what + ")", x.person(one, what), people[one][what - 1]);
            }
        }
        says("NEEDS (12 at most, in the order in which they come): WHO (one of PEOPLE), a HELP, GRAVE (1 .. 9), "
            + "HANDS (1 .. 3 helpers), a YEAR (0 .. 9).");
        tell(x, "n00130;n61929;n33710;n62418;" + times("n52521;", 8));
        int[][] needs = {{0, 0, 1, 3, 0}, {6, 1, 9, 2, 9}, {3, 3, 7, 1, 0}, {6, 2, 4, 1, 8}, {5, 2, 5, 2, 1}};
        for (int need = 0; need < needs.length; need++) {
            for (int what = 0; what <= 4; what++) {
                due("need(" + need + ", " + what + ")", x.need(need, what), needs[need][what]);
            }
        }
        due("NEEDS", x.count(1), 12);
        due("a thirteenth NEED", feedAll(x, "n00110;"), -2000);
        due("is not there", x.need(12, 0), -1);
    }

    private static void laws() {
        says("LAW: 0 BOTH (of a pair of whom one has helped the other neither may help the other again),");
        HelpedOnlyOnce x = told("p00,1000;p00,1000;p00,1000;n00510;");
        due("help(1, 0)", x.help(1, 0), 5);
        due("may(1, 0)", x.may(1, 0), 0);
        due("may(0, 1)", x.may(0, 1), 0);
        due("may(2, 0)", x.may(2, 0), 1);
        due("may(0, 2)", x.may(0, 2), 1);
        due("may(1, 2)", x.may(1, 2), 1);
        due("may(2, 1)", x.may(2, 1), 1);
        says("1 ONE (the helper may not help the same one again; the other way is free),");
        due("LAW was", x.set(LAW, ONE), BOTH);
        due("may(1, 0)", x.may(1, 0), 0);
        due("may(0, 1)", x.may(0, 1), 1);
        says("2 YEARS (as BOTH, but SPAN years on, counted from the YEAR of the help, all is as if it had not been),");
        due("LAW was", x.set(LAW, YEARS), ONE);
        for (int year = 0; year <= 4; year++) {
            due("may(1, 0), YEAR " + year, x.may(1, 0), year < 3 ? 0 : 1);
            due("may(0, 1), YEAR " + year, x.may(0, 1), year < 3 ? 0 : 1);
            x.year();
        }
        says("3 SMALL (as BOTH, but a help for a NEED with GRAVE below SIZE does not count);");
        due("LAW was", x.set(LAW, SMALL), YEARS);
        for (int size = 0; size <= 9; size++) {
            x.set(SIZE, size);
            due("may(1, 0), SIZE " + size, x.may(1, 0), size <= 5 ? 0 : 1);
            due("may(0, 1), SIZE " + size, x.may(0, 1), size <= 5 ? 0 : 1);
        }
        says("0 at first. SPAN (1 .. 9; 3 at first), SIZE (0 .. 9; 3 at first). YEAR (0 at first). "
            + "OUT (0 .. 9 strangers of another town; 0 at first).");
        int[] least = {0, 1, 0, 0};
        int[] greatest = {3, 9, 9, 9};
        int[] first = {0, 3, 3, 0};
        HelpedOnlyOnce y = new HelpedOnlyOnce();
        for (int what = LAW; what <= OUT; what++) {
            due("below the least of " + what, y.set(what, least[what] - 1), -4);
            due("above the greatest of " + what, y.set(what, greatest[what] + 1), -6);
            due("at first " + what, y.set(what, greatest[what]), first[what]);
            due("the greatest of " + what, y.set(what, least[what]), greatest[what]);
            due("the least of " + what, setting(y, what), least[what]);
        }
        due("YEAR", y.count(4), 0);
    }

    private static void book() {
        says("A HELP in the book: helper, helped, YEAR, GRAVE (60 at most).");
        HelpedOnlyOnce x = told("p00,1000;p00,1000;n00412;");
        years(x, 2);
        due("help(1, 0)", x.help(1, 0), 4);
        due("helps", x.count(2), 1);
        x.set(LAW, ONE);
        due("1 is the helper", x.spent(1, 0), 1);
        due("0 is the helped one", x.spent(0, 1), 0);
        x.set(LAW, SMALL);
        x.set(SIZE, 4);
        due("GRAVE 4 is not below 4", x.spent(1, 0), 1);
        x.set(SIZE, 5);
        due("GRAVE 4 is below 5", x.spent(1, 0), 0);
        x.set(LAW, YEARS);
        years(x, 2);
        due("YEAR 4 is 2 on from YEAR 2", x.spent(1, 0), 1);
        x.year();
        due("YEAR 5 is 3 on from YEAR 2", x.spent(1, 0), 0);
        says("PAIR is SPENT (for one to help another, now): by some help in the book that counts by the LAW as it is "
            + "now, for that way.");
        HelpedOnlyOnce y = told("p00,1000;p00,1000;n00210;n00911;");
        y.set(LAW, SMALL);
        due("GRAVE 2", y.help(1, 0), 2);
        due("does not count", y.spent(1, 0), 0);
        y.year();
        due("GRAVE 9", y.help(1, 1), 9);
        due("one of two counts", y.spent(1, 0), 1);
        due("for the other way", y.spent(0, 1), 1);
        y.set(LAW, ONE);
        due("by ONE", y.spent(1, 0), 1);
        due("not that way", y.spent(0, 1), 0);
        y.back();
        y.set(LAW, SMALL);
        due("GRAVE 2 alone", y.spent(1, 0), 0);
        y.set(LAW, BOTH);
        due("the LAW as it is now", y.spent(1, 0), 1);
    }

    private static void good() {
        HelpedOnlyOnce x = told(GOODS);
        says("GOOD of one for a NEED: PERSON: SKILL for its HELP times GRAVE, less the minutes between the PLACES of "
            + "both, by 10, cut, 0 at least.");
        goods(x, 0, 30, 10, 24, 0);
        says("DOCTOR: twice as much for HELP 0, else as a PERSON.");
        goods(x, 1, 44, 13, 6, 0);
        says("CHILD: half of a PERSON's, cut.");
        goods(x, 2, 9, 12, 12, 2);
        says("OLD: a PERSON's less 5, 0 at least.");
        goods(x, 3, 27, 21, 19, 0);
        says("GUEST: as a PERSON, but without minutes.");
        goods(x, 4, 6, 10, 12, 4);
        says("NURSE: a DOCTOR's and 3.");
        goods(x, 5, 21, 20, 26, 10);
        says("SHY: a CHILD's, and nothing if it is more than 20 minutes off.");
        goods(x, 6, 26, 19, 0, 0);
        due("to 20 minutes from 3, 25 from 0", x.move(6, 35), 25);
        goods(x, 6, 0, 0, 13, 0);
        due("to 21 minutes from 3", x.move(6, 34), 35);
        goods(x, 6, 0, 0, 0, 0);
    }

    private static void goods(HelpedOnlyOnce x, int one, int... goods) {
        for (int need = 0; need < goods.length; need++) {
            due("good(" + one + ", " + need + ")", x.good(one, need), goods[need]);
        }
    }

    private static void may() {
        says("One MAY help another one, who is not itself, if the PAIR is not SPENT that way;");
        HelpedOnlyOnce x = told("l133;p00,1000;p00,1000;n00510;");
        due("itself", x.may(1, 1), 0);
        due("may(1, 0)", x.may(1, 0), 1);
        due("may(0, 1)", x.may(0, 1), 1);
        x.help(1, 0);
        due("SPENT", x.may(1, 0), 0);
        due("not SPENT that way", x.may(0, 1), 1);
        says("a GUEST is never SPENT as a helper.");
        HelpedOnlyOnce y = told("p00,1000;p40,1000;n00510;n10510;");
        due("help(1, 0)", y.help(1, 0), 5);
        due("the GUEST as helper", y.spent(1, 0), 0);
        due("the GUEST MAY", y.may(1, 0), 1);
        due("the GUEST as the helped one", y.spent(0, 1), 1);
        due("the other one MAY not", y.may(0, 1), 0);
        says("A SHY one MAY help only who is 20 minutes off or nearer.");
        HelpedOnlyOnce z = told("p050,0000;p630,0000;p629,0000;p670,0000;p671,0000;");
        due("20 minutes", z.may(1, 0), 1);
        due("21 minutes", z.may(2, 0), 0);
        due("20 minutes behind", z.may(3, 0), 1);
        due("21 minutes behind", z.may(4, 0), 0);
        due("helped from afar", z.may(0, 4), 1);
        due("1 minute", z.may(2, 1), 1);
        says("A NEED is OPEN, if it is of the YEAR now and fewer than HANDS have helped with it;");
        HelpedOnlyOnce o = told(times("p00,1000;", 4) + "n00120;n00111;");
        due("one of the YEAR", o.count(3), 1);
        due("help(1, 0)", o.help(1, 0), 1);
        due("one of two has helped", o.count(3), 1);
        due("help(2, 0)", o.help(2, 0), 1);
        due("two of two", o.count(3), 0);
        due("no HAND is left", o.help(3, 0), -3);
        due("of the YEAR to come", o.help(3, 1), -3);
        o.year();
        due("of the YEAR now", o.count(3), 1);
        o.year();
        due("of a YEAR that was", o.count(3), 0);
        says("one MAY help with it, if it is OPEN, one MAY help its WHO, and one has not helped with it already.");
        HelpedOnlyOnce g = told("p00,1000;p40,1000;n00130;n00110;");
        due("WHO itself", g.help(0, 0), -3);
        due("OPEN", g.help(1, 0), 1);
        due("already", g.help(1, 0), -3);
        due("another NEED", g.help(1, 1), 1);
    }

    private static void letters() {
        says("A TOWN is told in letters, one by one (64 at most): STATEMENTS, each with \";\" behind:");
        HelpedOnlyOnce x = new HelpedOnlyOnce();
        String text = "p00,0000;" + times("n00110;", 5) + times("l033;", 4);
        feedOnly(x, text.substring(0, 63));
        due("the 64th letter", x.feed(';'), 64);
        due("no 65th", x.feed('l'), -6);
        due("ten STATEMENTS", x.town(), 10);
        says("\"p\" KIND (a digit) PLACE (1 or 2 digits) \",\" four digits (SKILLS): one of PEOPLE more;");
        HelpedOnlyOnce p = new HelpedOnlyOnce();
        due("a digit", feedAll(p, "p29,0189;"), 1);
        due("two digits", feedAll(p, "p309,4567;"), 1);
        int[] columns = {2, 9, 0, 1, 8, 9, 3, 9, 4, 5, 6, 7};
        for (int i = 0; i < columns.length; i++) {
            due("person(" + i / 6 + ", " + i % 6 + ")", p.person(i / 6, i % 6), columns[i]);
        }
        due("three digits", feedAll(p, "p0123,0000;"), -1004);
        due("no digit", feedAll(p, "p0,0000;"), -1002);
        due("three SKILLS", feedAll(p, "p00,000;"), -1007);
        due("five SKILLS", feedAll(p, "p00,00000;"), -1008);
        says("\"n\" WHO, HELP, GRAVE, HANDS, YEAR (a digit each): a NEED more;");
        due("five digits", feedAll(p, "n13927;"), 1);
        int[] need = {1, 3, 9, 2, 7, 0};
        for (int what = 0; what < need.length; what++) {
            due("need(0, " + what + ")", p.need(0, what), need[what]);
        }
        due("four digits", feedAll(p, "n1392;"), -1005);
        due("six digits", feedAll(p, "n139271;"), -1006);
        says("\"l\" LAW, SPAN, SIZE (a digit each).");
        due("three digits", feedAll(p, "l258;"), 1);
        due("LAW", setting(p, LAW), 2);
        due("SPAN", setting(p, SPAN), 5);
        due("SIZE", setting(p, SIZE), 8);
        due("OUT", setting(p, OUT), 0);
        due("two digits", feedAll(p, "l25;"), -1003);
        due("four digits", feedAll(p, "l2580;"), -1004);
        says("At least one STATEMENT.");
        due("none", p.town(), -1000);
    }

    private static void faults() {
        says("FAULT: kind 1 the place of the first letter with which no TOWN can go on (the end, if something lacks): "
            + "-1000 less the place;");
        String[] texts = {"x", "P", ";", "p00,0000;;", "p00,0000; n", "l033;q", "l0 3;", "n00/10;", "p0:,0000;",
            "p", "p0", "p00", "p001", "p00,", "p00,0000", "l03", "n00110;l", "l933;l03x;", "n99999;n"};
        int[] places = {0, 0, 0, 9, 9, 5, 2, 3, 2, 1, 2, 3, 4, 4, 8, 3, 8, 8, 8};
        for (int i = 0; i < texts.length; i++) {
            HelpedOnlyOnce x = new HelpedOnlyOnce();
            due(texts[i], feedAll(x, texts[i]), -1000 - places[i]);
            due("letters behind " + texts[i], x.count(5), 0);
        }
        says("else kind 2 the place of the first letter of the first STATEMENT that, behind all ahead of it in the text, "
            + "is not as it must be (a number out of range, nobody there, no room): -2000 less the place.");
        String[] wrong = {"p70,0000;", "p99,9999;", "l433;", "l003;", "l033;l203;", "p00,0000;n04110;",
            "p00,0000;n00010;", "p00,0000;n00100;", "p00,0000;n00140;", "n00110;", "n00110;p00,0000;",
            "p00,0000;n10110;", "p00,0000;n10110;p00,0000;", "l033;l433;l003;", "p00,0000;p00,0000;n10110;n20110;"};
        int[] wrongPlaces = {0, 0, 0, 0, 5, 9, 9, 9, 9, 0, 0, 9, 9, 5, 25};
        for (int i = 0; i < wrong.length; i++) {
            due(wrong[i], feedAll(new HelpedOnlyOnce(), wrong[i]), -2000 - wrongPlaces[i]);
        }
        HelpedOnlyOnce six = told(times("p00,0000;", 6) + times("n00110;", 11));
        due("the eighth", feedAll(six, "p00,0000;p00,0000;"), -2009);
        due("the thirteenth", feedAll(six, "n00110;n00110;"), -2007);
        says("Without FAULT all of it comes, with one nothing.");
        due("PEOPLE", six.count(0), 6);
        due("NEEDS", six.count(1), 11);
        due("all that goes before comes to nothing", feedAll(six, "l299;p00,0000;n60110;n60110;"), -2021);
        due("PEOPLE", six.count(0), 6);
        due("LAW", six.count(7), 0);
        due("SPAN", setting(six, SPAN), 3);
        due("all of it", feedAll(six, "l299;p00,0000;n60110;"), 3);
        due("PEOPLE", six.count(0), 7);
        due("NEEDS", six.count(1), 12);
        due("LAW", six.count(7), 2);
    }

    private static void rules() {
        says("==== II. RULES are KINDS: 0 NEAR under RULE; 1 SKILLED under RULE; 2 SPARE under RULE; 3 KEEP under SPARE; "
            + "4 KIN under NEAR; 5 TOLD under RULE: of all who MAY help with a NEED the one it chooses (of several the "
            + "least number; none): RULE nobody.");
        HelpedOnlyOnce alike = told(times("p00,2000;", 5) + "n20510;");
        HelpedOnlyOnce none = told("p00,2000;n00510;");
        alike.row(4);
        none.row(0);
        int[] chosen = {0, 0, 0, 0, 0, 4};
        for (int rule = NEAR; rule <= TOLD; rule++) {
            due("of several, RULE " + rule, alike.chosen(rule, 0), chosen[rule]);
            due("none, RULE " + rule, none.chosen(rule, 0), -9);
        }
        due("no RULE 6", alike.chosen(6, 0), -2);
        HelpedOnlyOnce x = told("p050,3000;p070,5000;p045,1000;p099,9000;p048,2000;n00620;n00911;");
        says("NEAR: whose minutes are least.");
        due("20, 5, 49, 2 minutes", x.chosen(NEAR, 0), 4);
        says("SKILLED: whose GOOD is greatest.");
        due("GOOD 28, 6, 50, 12", x.chosen(SKILLED, 0), 3);
        says("SPARE: whose LOSS is least.");
        due("LOSS 43, 9, 77, 18", x.chosen(SPARE, 0), 2);
        says("KEEP: as SPARE, but none whose LOSS is as much as its GOOD or more.");
        due("each LOSS is more", x.chosen(KEEP, 0), -9);
        HelpedOnlyOnce y = told("p00,0000;p00,1200;p00,0000;p00,5300;p00,2300;n00310;n01210;");
        due("GOOD 3, 0, 15, 6, LOSS 4, 0, 6, 6", y.chosen(KEEP, 0), 3);
        due("SPARE of them", y.chosen(SPARE, 0), 2);
        says("KIN: as NEAR, but none whose number is just beside the WHO's (1 more or 1 less).");
        HelpedOnlyOnce z = told("p050,0000;p052,0000;p060,0000;p099,0000;n10110;n00110;");
        due("NEAR of them", z.chosen(NEAR, 0), 0);
        due("neither 0 nor 2 for 1", z.chosen(KIN, 0), 3);
        due("not 1 for 0", z.chosen(KIN, 1), 2);
        says("TOLD: the first of the ROW (as it is told, from its beginning) who MAY help with it;");
        due("no ROW", z.chosen(TOLD, 0), -9);
        z.row(1);
        z.row(2);
        z.row(0);
        due("not WHO itself", z.chosen(TOLD, 0), 2);
        due("1 is the first", z.chosen(TOLD, 1), 1);
        due("1 helps 0", z.help(1, 1), 0);
        due("from its beginning again", z.chosen(TOLD, 0), 2);
    }

    private static void loss() {
        says("a LOSS of one for a NEED: of all other NEEDS of the same WHO that come behind it in the list the greatest "
            + "GOOD of that one for it (0 none).");
        HelpedOnlyOnce x = told("p00,0000;p10,4321;p00,9999;n00210;n10920;n01915;n02310;n00110;");
        int[] losses = {27, 0, 8, 8, 0};
        for (int need = 0; need < losses.length; need++) {
            due("loss(1, " + need + ")", x.loss(1, need), losses[need]);
        }
        due("of WHO itself", x.loss(0, 0), 0);
        due("of another one", x.loss(2, 0), 81);
    }

    private static void run() {
        says("RUN by a RULE (in mind, from now): NEEDS of this YEAR as they come, each as often as HANDS are left, the "
            + "RULE chooses and it is done; then YEAR is one more, till YEAR 9 is done: the sum of all GOODS.");
        HelpedOnlyOnce x = told("p00,0000;p00,3000;p00,5000;n00120;n00219;n00111;");
        due("5 and 3", x.run(SKILLED), 8);
        due("YEARS", x.byLaw(YEARS, SKILLED), 18);
        due("helps", x.count(2), 0);
        due("the YEAR", x.count(4), 0);
        x.year();
        due("from YEAR 1: 5 and 6", x.run(SKILLED), 11);
        HelpedOnlyOnce y = told("p00,0000;p00,3000;p00,5000;n00130;n00410;");
        due("help(1, 0)", y.help(1, 0), 3);
        due("what is left", y.run(SKILLED), 5);
        due("0 helps 1", told("p00,3000;p00,0000;n10210;").run(SKILLED), 6);
        says("WITHOUT: how many HANDS were left so (of all NEEDS of these YEARS).");
        due("one and one", y.without(SKILLED), 2);
        due("none of YEAR 1 and later", x.without(SKILLED), 0);
        due("KIN knows 2 alone", x.without(KIN), 1);
    }

    private static void most() {
        says("MOST: of all ways to help with NEEDS of this YEAR and later ones, each with whom one likes who MAY, or "
            + "nobody, one behind the other as they come (YEARS go by as above), the greatest sum of GOODS (8 NEEDS at "
            + "most that are of this YEAR or later; at most 8 HANDS left in all);");
        HelpedOnlyOnce x = told(EARLY);
        due("8 and 54", x.most(), 62);
        x.set(LAW, YEARS);
        x.set(SPAN, 1);
        due("12 and 54, a YEAR on", x.most(), 66);
        HelpedOnlyOnce needs = told("p00,0000;p00,9000;" + times("n00110;", 7) + "n00919;");
        due("the last of 8 NEEDS", needs.most(), 81);
        tell(needs, "n00919;");
        due("a ninth", needs.most(), -6);
        needs.year();
        due("two of later YEARS", needs.most(), 81);
        HelpedOnlyOnce done = told("p00,0000;p40,2000;" + times("n00110;", 8));
        due("a GUEST eight times", done.most(), 16);
        tell(done, "n00110;");
        done.help(1, 0);
        due("8 HANDS left, of 9 NEEDS", done.most(), -6);
        HelpedOnlyOnce hands = told(times("p00,1000;", 4) + "n00130;n10130;n20120;");
        due("8 HANDS, 6 pairs", hands.most(), 6);
        tell(hands, "n30110;");
        due("9 HANDS", hands.most(), -6);
        hands.help(1, 0);
        due("8 HANDS left", hands.most(), 5);
        says("who helps first (in the first such HAND) by the first of these ways (by who is least, nobody last).");
        due("2, so that 1 is left", told(EARLY).first(), 2);
        due("0 for 1", told("p00,3000;p00,0000;p00,3000;n10210;").first(), 0);
        due("of two alike", told("p00,0000;p00,1000;p00,1000;n00510;").first(), 1);
        due("for nothing, but not nobody", told("p00,0000;p00,0000;n00510;").first(), 1);
        due("nobody, so that 1 is left", told("p00,0000;p00,1000;n00110;n00910;").first(), -9);
        due("no HANDS", told("p00,0000;p00,1000;").first(), -9);
    }

    private static void worth() {
        says("GAP of a RULE: MOST less RUN.");
        HelpedOnlyOnce x = told(EARLY);
        due("12 and 6", x.run(SKILLED), 18);
        due("62 less 18", x.gap(SKILLED), 44);
        says("WORTH of a PAIR (one helps another): MOST less what it were if the book had such a help now (GRAVE 9; it "
            + "counts by the LAW).");
        due("62 less 8 and 6", x.worth(1, 0), 48);
        due("62 less 4 and 54", x.worth(2, 0), 4);
        due("3 is not needed", x.worth(3, 0), 0);
        due("the other way, BOTH", x.worth(0, 1), 48);
        due("helps", x.count(2), 0);
        says("KEEPS: the one whose PAIR (it helps a told one) is worth most, of several the least; -9 nobody is worth "
            + "anything.");
        due("48, 4, 0", x.keeps(0), 1);
        due("by BOTH 0 for 1", x.keeps(1), 0);
        due("nobody for 3", x.keeps(3), -9);
        HelpedOnlyOnce two = told("p00,0000;p00,1000;p00,1000;n00110;n00110;");
        due("1 and 2 are worth as much", two.keeps(0), 1);
        x.set(LAW, ONE);
        due("the other way, ONE", x.worth(0, 1), 0);
        due("by ONE nobody for 1", x.keeps(1), -9);
        x.set(LAW, SMALL);
        x.set(SIZE, 9);
        due("GRAVE 9 is not below 9, 4 and 6 are: 66 less 8 and 6", x.worth(1, 0), 52);
        x.set(LAW, YEARS);
        x.set(SPAN, 1);
        due("now: by YEAR 1 it counts no more: 66 less 8 and 54", x.worth(1, 0), 4);
    }

    private static void lasts() {
        says("LASTS by a RULE: in mind, all NEEDS left aside: each year, from this YEAR on, each one of PEOPLE by numbers "
            + "NEEDS HELP h once (GRAVE 5, one HAND): how many years till somebody goes without (30 at most).");
        HelpedOnlyOnce x = told("p00,0000;p00,0000;p00,0000;n00930;");
        due("three pairs", x.lasts(NEAR, 0), 1);
        x.set(LAW, ONE);
        due("six ways", x.lasts(NEAR, 0), 2);
        x.set(LAW, SMALL);
        x.set(SIZE, 5);
        due("GRAVE 5 counts", x.lasts(NEAR, 0), 1);
        x.set(SIZE, 6);
        due("GRAVE 5 counts no more", x.lasts(NEAR, 0), 30);
        x.set(LAW, YEARS);
        x.set(SPAN, 1);
        due("each YEAR anew", x.lasts(NEAR, 0), 30);
        x.set(SPAN, 2);
        due("each second YEAR anew", x.lasts(NEAR, 0), 1);
        x.help(1, 0);
        x.set(LAW, BOTH);
        due("with the book as it is", x.lasts(NEAR, 0), 0);
        due("one alone", told("p00,9999;").lasts(NEAR, 0), 0);
        due("two GUESTS", told("p40,0000;p40,0000;").lasts(SKILLED, 3), 30);
        says("MANY: how few people a town must have so that each can be helped n times by the LAW, each help counting: "
            + "BOTH, YEARS, SMALL 2 n and 1; ONE n and 1.");
        int[] many = {7, 4, 7, 7};
        for (int law = BOTH; law <= SMALL; law++) {
            due("many(" + law + ", 3)", x.many(law, 3), many[law]);
        }
        due("once by BOTH: as the three above", x.many(BOTH, 1), 3);
        due("twice by ONE: as the three above", x.many(ONE, 2), 3);
    }

    private static void places() {
        says("MOVE: one lives elsewhere: the PLACE it lived at.");
        HelpedOnlyOnce x = told("p050,0000;p03,9000;n00110;");
        due("move(1, 98)", x.move(1, 98), 3);
        due("PLACE", x.person(1, 1), 98);
        due("minutes", x.minutes(0, 1), 48);
        due("9 less 4", x.good(1, 0), 5);
        says("BEST PLACE: of 0, 10, .. 90 that at which RUN by SKILLED is greatest, if one lived there, of several the "
            + "least.");
        due("at 50 as 0", x.bestPlace(1), 50);
        due("0 to 90, 8 minutes from 1", x.bestPlace(0), 90);
        due("nobody has moved", x.person(1, 1), 98);
        x.move(0, 45);
        due("40 and 50 are 5 off", x.bestPlace(1), 40);
        x.move(0, 99);
        due("90 is 9 off", x.bestPlace(1), 90);
    }

    private static void strangersAndLaws() {
        says("STRANGERS: OUT of them help, each once: in RUN by a RULE with OUT strangers a HAND for which the RULE "
            + "chooses nobody is had by a stranger, as long as there are some (GOOD: GRAVE times 3): the sum.");
        HelpedOnlyOnce x = told("p00,0000;p00,2000;n00420;n00511;");
        int[] sums = {8, 20, 35, 35};
        for (int out = 0; out <= 3; out++) {
            x.set(OUT, out);
            due("strangers(SKILLED), OUT " + out, x.strangers(SKILLED), sums[out]);
        }
        due("none of them in RUN", x.run(SKILLED), 8);
        due("none of them in WITHOUT", x.without(SKILLED), 2);
        says("SMALLEST: the SIZE 0 .. 9 with which, by LAW SMALL, RUN by SKILLED is greatest, of several the least.");
        HelpedOnlyOnce y = told("p00,0000;p00,2000;n00310;n00610;n00910;");
        due("36 from SIZE 7 on", y.smallest(), 7);
        due("the LAW as it was", y.count(7), BOTH);
        due("the SIZE as it was", setting(y, SIZE), 3);
        says("BY LAW: RUN by a RULE by another LAW (SPAN, SIZE as they are).");
        due("SIZE 3", y.byLaw(SMALL, SKILLED), 6);
        y.set(SIZE, 4);
        due("SIZE 4", y.byLaw(SMALL, SKILLED), 18);
        y.set(SIZE, 7);
        due("SIZE 7", y.byLaw(SMALL, SKILLED), 36);
        due("BOTH", y.byLaw(BOTH, SKILLED), 6);
        HelpedOnlyOnce z = told("p00,0000;p00,2000;n00310;n00413;");
        due("SPAN 3", z.byLaw(YEARS, SKILLED), 14);
        z.set(SPAN, 4);
        due("SPAN 4", z.byLaw(YEARS, SKILLED), 6);
        due("the LAW as it was", z.count(7), BOTH);
    }

    private static void seeds() {
        says("SEEDS: n YEARS (1 .. 10) with a seed z, in mind, by a RULE, told NEEDS left aside: each year 3 NEEDS one "
            + "behind the other: WHO a DRAW below how many PEOPLE, HELP a DRAW below 4, GRAVE 1 and a DRAW below 9, one "
            + "HAND: the sum of GOODS.");
        // from 1 on the numbers are 16838 5758 10113, 17515 31051 5627, 23010 7419 16212: of two PEOPLE
        // 0 needs HELP 2 with GRAVE 7, 1 needs HELP 3 with GRAVE 3, 0 needs HELP 3 with GRAVE 4
        HelpedOnlyOnce x = told("p00,1234;p00,5678;n00930;");
        due("49", x.seeds(SKILLED, 1, 1), 49);
        x.set(LAW, ONE);
        due("49 and 12", x.seeds(SKILLED, 1, 1), 61);
        x.set(LAW, SMALL);
        x.set(SIZE, 8);
        due("49, 12 and 32", x.seeds(SKILLED, 1, 1), 93);
        // then 4086 2749 12767, 9084 12060 32225, 17543 25089 21183:
        // 0, HELP 1, GRAVE 6; 0, HELP 0, GRAVE 6; 1, HELP 1, GRAVE 7
        due("and 36, 30, 14", x.seeds(SKILLED, 2, 1), 173);
        x.set(LAW, YEARS);
        x.set(SPAN, 1);
        due("49 and 36", x.seeds(SKILLED, 2, 1), 85);
        due("helps", x.count(2), 0);
        due("NEEDS", x.count(1), 1);
        due("the YEAR", x.count(4), 0);
        says("DRAWS: z becomes z times 1103515245 plus 12345 (an int, wrapping); a DRAW below n is (z without its sign's "
            + "bit, over 65536, cut) modulo n.");
        HelpedOnlyOnce y = told("p40,1234;p40,5678;");
        due("from 1 on", y.seeds(NEAR, 1, 1), 93);
        due("the sign's bit is never seen", y.seeds(NEAR, 1, 1 ^ LEAST), 93);
        // from 0 on the numbers are 0 21468 9988, 22117 3498 16927, 16045 19741 12122:
        // 0, HELP 0, GRAVE 8; 1, HELP 2, GRAVE 8; 1, HELP 1, GRAVE 9
        due("from 0 on: 40, 24, 18", y.seeds(NEAR, 1, 0), 82);
    }

    private static void row() {
        says("A ROW of PEOPLE (10 at most): JUDGED: HANDS of OPEN NEEDS as they come (each NEED as often as HANDS are "
            + "left), each by the next one of the ROW (in mind): the place of the first who MAY not (one who is not "
            + "there any more, too); -9; where it ends, if it is too short; how many HANDS there are, if it is too long "
            + "(and all before MAY).");
        HelpedOnlyOnce x = told(times("p00,1000;", 3) + "n00120;n00931;n10130;");
        x.help(2, 0);
        x.image();
        tell(x, "p00,1000;");
        due("0 for itself", judged(x, 0, 3, 2, 0), 0);
        due("2 has helped 0", judged(x, 2, 3, 2, 0), 0);
        due("1 for itself", judged(x, 3, 1, 2, 0), 1);
        due("3 helps 1 twice", judged(x, 3, 3, 3, 0), 2);
        due("1 has helped 0", judged(x, 1, 3, 2, 0), 3);
        due("all MAY", judged(x, 3, 2, 3, 0), -9);
        due("too short", judged(x, 3, 2, 3), 3);
        due("none at all", judged(x), 0);
        due("too long", judged(x, 3, 2, 3, 0, 0, 0), 4);
        due("before it is too short", judged(x, 3, 2, 2), 2);
        due("before it is too long", judged(x, 3, 2, 3, 1, 1), 3);
        due("in mind", x.count(2), 1);
        x.row(3);
        x.restore();
        due("one who is not there any more", x.judge(), 0);
        for (int place = 1; place <= 10; place++) {
            due("row(0)", x.row(0), place);
        }
        due("an eleventh", x.row(0), -6);
    }

    private static void imageAndRefusals() {
        says("THE IMAGE: all that there is, but it, letters, the ROW, REFUSALS.");
        HelpedOnlyOnce x = told("l258;p00,1000;p00,1000;n00130;n10130;");
        x.set(OUT, 4);
        x.help(1, 0);
        x.year();
        due("image()", x.image(), 1);
        tell(x, "l111;p00,1000;n20110;");
        x.set(OUT, 9);
        x.move(0, 50);
        x.back();
        x.year();
        x.row(2);
        x.feed('p');
        x.feed(-1);
        due("restore()", x.restore(), 1);
        int[] counts = {2, 2, 1, 0, 1, 1, 1, 2};
        for (int what = 0; what < counts.length; what++) {
            due("count(" + what + ")", x.count(what), counts[what]);
        }
        due("SPAN", setting(x, SPAN), 5);
        due("SIZE", setting(x, SIZE), 8);
        due("OUT", setting(x, OUT), 4);
        due("PLACE", x.person(0, 1), 0);
        due("how many have helped", x.need(0, 5), 1);
        due("REFUSALS", x.count(14), 1);
        x.year();
        due("the image stays", x.restore(), 1);
        due("the letter that was there", x.town(), -1001);
        says("REFUSALS (the call answers the number, the first that fits in the order in which it tells them; nothing "
            + "changes but how many there were):");
        due("RULE before NEED", x.chosen(6, 2), -2);
        due("one before what", x.person(2, 6), -1);
        due("HELP before nobody", new HelpedOnlyOnce().lasts(NEAR, 4), -1);
        due("HELP and RULE", new HelpedOnlyOnce().lasts(-1, 4), -2);
        due("how many -2", x.count(12), 1);
        due("how many -1", x.count(11), 1);
        says("-1 NOBODY: no such one, NEED, HELP.");
        due("one", x.minutes(0, 2), -1);
        due("NEED", x.need(2, 0), -1);
        due("HELP", x.lasts(NEAR, -1), -1);
        says("-2 OTHER: what, RULE, LAW.");
        due("what", x.need(0, 6), -2);
        due("RULE", x.run(6), -2);
        due("LAW", x.many(4, 1), -2);
        says("-3 STATE: it is not as told.");
        due("it MAY not", x.help(0, 0), -3);
        says("-4 BELOW: a number below the least.");
        due("a PLACE", x.move(0, -1), -4);
        says("-6 ROOM: a number above the greatest, no room.");
        due("a PLACE", x.move(0, 100), -6);
        says("Of gap(), worth() 1000000000 less them (-1 as 1000000001).");
        due("gap(6)", x.gap(6), 1000000002);
        due("worth(0, 0)", x.worth(0, 0), 1000000001);
        tell(x, "n00131;n00131;n00131;");
        due("9 HANDS, gap", x.gap(NEAR), 1000000006);
        due("9 HANDS, worth", x.worth(0, 1), 1000000006);
        due("how many -6", x.count(16), 3);
    }

    private static void promisesOfTheTown() {
        says("Promise 1: A new object HelpedOnlyOnce(): Nobody, no NEEDS.");
        HelpedOnlyOnce x = new HelpedOnlyOnce();
        for (int what = 0; what <= 20; what++) {
            due("count(" + what + ")", x.count(what), what <= 7 || what >= 11 && what <= 16 ? 0 : -9);
        }
        says("Promise 2: feed int feed(int letter): A letter comes: how many there are. -4; -6 (255; 64, too).");
        due("feed(0)", x.feed(0), 1);
        due("feed(255)", x.feed(255), 2);
        due("feed(-1)", x.feed(-1), -4);
        due("feed(256)", x.feed(256), -6);
        for (int letter = 3; letter <= 64; letter++) {
            due("feed('p')", x.feed('p'), letter);
        }
        due("the 65th", x.feed('p'), -6);
        due("-4 comes first", x.feed(-1), -4);
        says("Promise 3: town int town(): The letters, which are no more then (with a FAULT neither), are a TOWN: how "
            + "many STATEMENTS; the FAULT (nothing is counted).");
        due("letters", x.count(5), 64);
        due("the FAULT", x.town(), -1000);
        due("letters", x.count(5), 0);
        due("STATEMENTS", feedAll(x, "p00,0000;p00,0000;l033;"), 3);
        due("letters", x.count(5), 0);
        for (int number = 1; number <= 6; number++) {
            due("REFUSALS -" + number, x.count(10 + number), number == 4 || number == 6 ? 2 : 0);
        }
        says("Promise 4: person int person(int person, int what): Of one: KIND (what 0), PLACE (1), SKILL for HELP 0 .. 3 "
            + "(2 .. 5). -1; -2.");
        HelpedOnlyOnce y = told("p562,9047;n02738;");
        columns(y, true, 5, 62, 9, 0, 4, 7);
        due("person(1, 0)", y.person(1, 0), -1);
        due("person(0, 6)", y.person(0, 6), -2);
        due("person(-1, -1)", y.person(-1, -1), -1);
        says("Promise 5: need int need(int need, int what): Of a NEED: WHO (what 0), HELP (1), GRAVE (2), HANDS (3), YEAR "
            + "(4), how many have helped (5). -1; -2.");
        columns(y, false, 0, 2, 7, 3, 8, 0);
        due("need(1, 0)", y.need(1, 0), -1);
        due("need(0, 6)", y.need(0, 6), -2);
        due("need(-1, -1)", y.need(-1, -1), -1);
        says("Promise 6: set int set(int what, int v): LAW (what 0), SPAN (1), SIZE (2), OUT (3): what it was. "
            + "-2; -4; -6.");
        due("LAW", y.set(0, 2), 0);
        due("LAW again", y.set(0, 3), 2);
        due("what it is", y.count(7), 3);
        due("SPAN", y.set(1, 7), 3);
        due("SIZE", y.set(2, 8), 3);
        due("OUT", y.set(3, 9), 0);
        due("set(4, -1)", y.set(4, -1), -2);
        due("set(-1, 1)", y.set(-1, 1), -2);
        due("set(1, 0)", y.set(1, 0), -4);
        due("set(2, 10)", y.set(2, 10), -6);
        due("SPAN is left", setting(y, SPAN), 7);
        due("SIZE is left", setting(y, SIZE), 8);
    }

    private static void columns(HelpedOnlyOnce x, boolean ofPerson, int... want) {
        for (int what = 0; what < want.length; what++) {
            due("what " + what, ofPerson ? x.person(0, what) : x.need(0, what), want[what]);
        }
    }

    private static void promisesOfPairs() {
        HelpedOnlyOnce x = told("p03,1000;p095,1000;p095,4000;n00810;n10210;");
        says("Promise 7: minutes int minutes(int one, int other): Minutes between two. -1 either.");
        due("minutes(0, 1)", x.minutes(0, 1), 92);
        due("minutes(1, 0)", x.minutes(1, 0), 92);
        due("minutes(1, 2)", x.minutes(1, 2), 0);
        due("one to itself", x.minutes(1, 1), 0);
        due("minutes(3, 0)", x.minutes(3, 0), -1);
        due("minutes(0, -1)", x.minutes(0, -1), -1);
        says("Promise 8: spent int spent(int helper, int helped): Whether the PAIR is SPENT for one to help another: "
            + "1, 0. -1 either (one twice, too).");
        due("spent(2, 0)", x.spent(2, 0), 0);
        due("help(2, 0)", x.help(2, 0), 23);
        due("spent(2, 0)", x.spent(2, 0), 1);
        due("one twice", x.spent(0, 0), -1);
        due("spent(3, 0)", x.spent(3, 0), -1);
        due("spent(0, 3)", x.spent(0, 3), -1);
        says("Promise 9: may int may(int helper, int helped): Whether one MAY help another: 1, 0 (itself 0). -1 either.");
        due("may(2, 0)", x.may(2, 0), 0);
        due("may(1, 0)", x.may(1, 0), 1);
        due("itself", x.may(0, 0), 0);
        due("may(3, 3)", x.may(3, 3), -1);
        due("may(-1, 0)", x.may(-1, 0), -1);
        says("Promise 10: good int good(int helper, int need): GOOD of one for a NEED. -1 either.");
        due("32 less 9", x.good(2, 0), 23);
        due("8 less 9", x.good(1, 0), 0);
        due("of itself", x.good(0, 0), 8);
        due("good(3, 0)", x.good(3, 0), -1);
        due("good(0, 2)", x.good(0, 2), -1);
    }

    private static void promisesOfTheBook() {
        says("Promise 11: help int help(int helper, int need): One helps with a NEED: its GOOD; it comes to the book. "
            + "-1 either; -3 it MAY not; -6 the book is full.");
        HelpedOnlyOnce x = told("p00,1000;p00,2000;p00,3000;n00820;n10211;");
        due("help(2, 0)", x.help(2, 0), 24);
        due("helps", x.count(2), 1);
        due("how many have helped", x.need(0, 5), 1);
        due("it MAY not", x.help(2, 0), -3);
        due("of a later YEAR", x.help(2, 1), -3);
        due("help(3, 0)", x.help(3, 0), -1);
        due("help(1, 2)", x.help(1, 2), -1);
        due("help(1, 0)", x.help(1, 0), 16);
        due("helps", x.count(2), 2);
        says("Promise 12: back int back(): The latest help in the book is taken back: how many are left. -3 there is "
            + "none.");
        due("back()", x.back(), 1);
        due("how many have helped", x.need(0, 5), 1);
        due("1 MAY again", x.may(1, 0), 1);
        due("2 MAY not", x.may(2, 0), 0);
        due("back()", x.back(), 0);
        due("2 MAY again", x.may(2, 0), 1);
        due("back()", x.back(), -3);
        says("Promise 13: year int year(): The YEAR is one more: the YEAR. -6 it is 99.");
        for (int year = 1; year <= 99; year++) {
            due("year()", x.year(), year);
        }
        due("year() at 99", x.year(), -6);
        due("the YEAR", x.count(4), 99);
    }

    private static void promisesOfRules() {
        HelpedOnlyOnce x = told("p00,0000;p030,1000;p010,2000;p020,3000;n00930;n00410;");
        says("Promise 14: chosen int chosen(int rule, int need): Who is chosen by a RULE for a NEED; -9 nobody. -2; -1.");
        x.row(3);
        int[] chosen = {2, 3, 1, 1, 2, 3};
        for (int rule = NEAR; rule <= TOLD; rule++) {
            due("chosen(" + rule + ", 0)", x.chosen(rule, 0), chosen[rule]);
        }
        x.clear();
        due("nobody", x.chosen(TOLD, 0), -9);
        due("chosen(-1, 2)", x.chosen(-1, 2), -2);
        due("chosen(0, 2)", x.chosen(0, 2), -1);
        says("Promise 15: loss int loss(int helper, int need): LOSS of one for a NEED. -1 either.");
        due("4 less 3", x.loss(1, 0), 1);
        due("12 less 2", x.loss(3, 0), 10);
        due("none behind", x.loss(3, 1), 0);
        due("loss(4, 0)", x.loss(4, 0), -1);
        due("loss(0, 2)", x.loss(0, 2), -1);
        says("Promise 16: run int run(int rule): RUN. -2.");
        due("25, 17 and 6", x.run(SKILLED), 48);
        due("17 and 25", x.run(KIN), 42);
        due("run(6)", x.run(6), -2);
        due("run(-1)", x.run(-1), -2);
        says("Promise 17: without int without(int rule): WITHOUT. -2.");
        due("the second NEED", x.without(SKILLED), 1);
        due("and one of the first", x.without(KIN), 2);
        due("without(6)", x.without(6), -2);
    }

    private static void promisesOfMost() {
        says("Promise 18: most int most(): MOST. -6.");
        HelpedOnlyOnce x = told(EARLY);
        HelpedOnlyOnce over = told(EARLY + "n00130;n00130;n00110;");
        due("most()", x.most(), 62);
        due("9 HANDS", over.most(), -6);
        due("nobody", new HelpedOnlyOnce().most(), 0);
        says("Promise 19: first int first(): Who helps first by MOST; -9 nobody, no HANDS. -6 likewise.");
        due("first()", x.first(), 2);
        due("9 HANDS", over.first(), -6);
        due("nobody", new HelpedOnlyOnce().first(), -9);
        says("Promise 20: gap int gap(int rule): GAP. Refused as told: -2; -6 likewise.");
        due("gap(SKILLED)", x.gap(SKILLED), 44);
        due("1, then 2, who can't", x.gap(NEAR), 50);
        due("by TOLD without a ROW", x.gap(TOLD), 62);
        due("-2 comes first", over.gap(6), 1000000002);
        due("9 HANDS", over.gap(NEAR), 1000000006);
        says("Promise 21: worth int worth(int helper, int helped): WORTH of a PAIR. Refused as told: -1 either (one "
            + "twice, too); -6 likewise (the book is full, too).");
        due("worth(1, 0)", x.worth(1, 0), 48);
        due("one twice", x.worth(1, 1), 1000000001);
        due("worth(4, 0)", x.worth(4, 0), 1000000001);
        due("worth(0, -1)", x.worth(0, -1), 1000000001);
        due("-1 comes first", over.worth(0, 0), 1000000001);
        due("9 HANDS", over.worth(1, 0), 1000000006);
        says("Promise 22: keeps int keeps(int helped): KEEPS. -1; -6 likewise.");
        due("keeps(0)", x.keeps(0), 1);
        due("keeps(4)", x.keeps(4), -1);
        due("-1 comes first", over.keeps(4), -1);
        due("9 HANDS", over.keeps(0), -6);
    }

    private static void promisesOfThought() {
        HelpedOnlyOnce none = new HelpedOnlyOnce();
        HelpedOnlyOnce x = told("p00,0000;p00,3000;p00,5000;n00120;n00210;");
        says("Promise 23: lasts int lasts(int rule, int help): LASTS. -2; -1 HELP; -3 nobody.");
        due("lasts(NEAR, 3)", x.lasts(NEAR, 3), 1);
        due("KEEP knows nobody with GOOD 0", x.lasts(KEEP, 3), 0);
        due("lasts(6, 0)", x.lasts(6, 0), -2);
        due("lasts(0, 4)", x.lasts(0, 4), -1);
        due("nobody", none.lasts(0, 0), -3);
        says("Promise 24: many int many(int law, int n): MANY by a LAW. -2; -4 below 1; -6 999.");
        due("many(ONE, 999)", none.many(ONE, 999), 1000);
        due("many(SMALL, 999)", none.many(SMALL, 999), 1999);
        due("many(BOTH, 0)", none.many(BOTH, 0), -4);
        due("many(YEARS, 1000)", none.many(YEARS, 1000), -6);
        due("many(4, 0)", none.many(4, 0), -2);
        says("Promise 25: move int move(int person, int place): MOVE: the PLACE it was at. -1; -4; -6 99.");
        due("move(1, 99)", x.move(1, 99), 0);
        due("move(1, 0)", x.move(1, 0), 99);
        due("move(1, -1)", x.move(1, -1), -4);
        due("move(1, 100)", x.move(1, 100), -6);
        due("move(3, 100)", x.move(3, 100), -1);
        says("Promise 26: bestPlace int bestPlace(int person): BEST PLACE. -1.");
        due("0 is the least of 0 and 10", x.bestPlace(1), 0);
        due("bestPlace(3)", x.bestPlace(3), -1);
        says("Promise 27: strangers int strangers(int rule): STRANGERS. -2.");
        x.set(OUT, 1);
        due("5, 3 and 6", x.strangers(SKILLED), 14);
        due("strangers(6)", x.strangers(6), -2);
        says("Promise 28: smallest int smallest(): SMALLEST.");
        due("GRAVE 1 is below 2: 5, 3 and 10", x.smallest(), 2);
        due("nobody", none.smallest(), 0);
        says("Promise 29: byLaw int byLaw(int law, int rule): BY LAW. -2 either.");
        due("SIZE 3: 5, 3 and 10", x.byLaw(SMALL, SKILLED), 18);
        due("BOTH", x.byLaw(BOTH, SKILLED), 8);
        due("byLaw(4, 0)", x.byLaw(4, 0), -2);
        due("byLaw(0, 6)", x.byLaw(0, 6), -2);
        says("Promise 30: seeds int seeds(int rule, int n, int z): SEEDS. -2; -4; -6 10; -3 nobody.");
        HelpedOnlyOnce y = told("p40,1234;p40,5678;");
        due("seeds(TOLD, 1, 1) without a ROW", y.seeds(TOLD, 1, 1), 0);
        due("seeds(NEAR, 1, 1)", y.seeds(NEAR, 1, 1), 93);
        due("seeds(6, 0, 0)", none.seeds(6, 0, 0), -2);
        due("seeds(0, 0, 0)", none.seeds(0, 0, 0), -4);
        due("seeds(0, 11, 0)", none.seeds(0, 11, 0), -6);
        due("seeds(0, 10, 0)", none.seeds(0, 10, 0), -3);
    }

    private static void promisesOfTheRow() {
        HelpedOnlyOnce x = told("p00,1000;p00,1000;n00110;");
        says("Promise 31: row int row(int person): One more of the ROW: how many. -1; -6 10.");
        due("row(2)", x.row(2), -1);
        due("row(-1)", x.row(-1), -1);
        for (int place = 1; place <= 10; place++) {
            due("row(1)", x.row(1), place);
        }
        due("row(1)", x.row(1), -6);
        due("-1 comes first", x.row(2), -1);
        says("Promise 32: judge int judge(): JUDGED; -9 (whichever it answers, the ROW has none then).");
        due("too long", x.judge(), 1);
        due("in the ROW", x.count(6), 0);
        x.row(1);
        due("all MAY", x.judge(), -9);
        due("in the ROW", x.count(6), 0);
        due("too short", x.judge(), 0);
        says("Promise 33: clear int clear(): The ROW has none then: how many it had.");
        x.row(1);
        x.row(0);
        due("clear()", x.clear(), 2);
        due("clear()", x.clear(), 0);
        due("in the ROW", x.count(6), 0);
    }

    private static void promisesOfTheImage() {
        HelpedOnlyOnce x = told("p00,1000;p00,1000;n00110;n10210;n10311;");
        says("Promise 34: image int image(): THE IMAGE is taken: the YEAR.");
        due("image()", x.image(), 0);
        x.year();
        due("image() a YEAR on", x.image(), 1);
        x.year();
        says("Promise 35: restore int restore(): It is RESTORED: the YEAR. -3 there is none.");
        due("the latest image", x.restore(), 1);
        due("the YEAR", x.count(4), 1);
        due("none", new HelpedOnlyOnce().restore(), -3);
        says("Promise 36: count int count(int what): 0 PEOPLE, 1 NEEDS, 2 helps in the book, 3 OPEN NEEDS, 4 the YEAR, "
            + "5 letters, 6 in the ROW, 7 LAW, 11 .. 16 REFUSALS -1 .. -6. -9 for another what.");
        HelpedOnlyOnce y = told("l333;p00,1000;p00,1000;p00,1000;n00110;n10210;n10310;n10311;");
        y.help(1, 0);
        y.feed('p');
        y.row(0);
        y.row(1);
        int[] counts = {3, 4, 1, 2, 0, 1, 2, 3, -9, -9, -9};
        for (int what = 0; what < counts.length; what++) {
            due("count(" + what + ")", y.count(what), counts[what]);
        }
        refuseOften(y);
        int[] refused = {1, 2, 3, 4, 0, 5, -9};
        for (int i = 0; i < refused.length; i++) {
            due("count(" + (11 + i) + ")", y.count(11 + i), refused[i]);
        }
        due("count(-1)", y.count(-1), -9);
        due("count(" + LEAST + ")", y.count(LEAST), -9);
        due("count(" + GREATEST + ")", y.count(GREATEST), -9);
    }

    // as often as its number's place among them: -1 once, -2 twice, -3 three times, -4 four times, -6 five times
    private static void refuseOften(HelpedOnlyOnce y) {
        y.worth(0, 0);
        y.gap(6);
        y.set(4, 0);
        for (int i = 0; i < 3; i++) {
            y.restore();
        }
        for (int i = 0; i < 4; i++) {
            y.many(BOTH, 0);
        }
        for (int i = 0; i < 5; i++) {
            y.many(BOTH, 1000);
        }
    }

    private static void notPromised() {
        says("Not promised How the state is held inside the object is free, as are the speed of each call, the text of "
            + "toString and the behaviour of equals and hashCode. Use of one object from several threads at once is not "
            + "promised to be safe. Nothing is promised beyond the answers and state changes described above, and "
            + "nothing about an object after its 512th call.");
        due("signs behind the last sentence", Math.max(0, document.length() - read), 0);
    }
}
