import java.util.Arrays;

/** A town in which only strangers may help. What each call answers is told in ../shared/DOC.md. */
public final class HelpedOnlyOnce {
    private static final int NOBODY = -9;
    private static final int ALL_MAY = -9;
    private static final int NO_COUNT = -9;

    private static final int NO_SUCH = -1;
    private static final int OTHER = -2;
    private static final int STATE = -3;
    private static final int BELOW = -4;
    private static final int ROOM = -6;
    // gap and worth answer numbers of their own, so that their refusals stand far off from these
    private static final int FAR_OFF = 1000000000;

    private static final int MOST_PEOPLE = 7;
    private static final int MOST_NEEDS = 12;
    private static final int MOST_HELPS = 60;
    private static final int MOST_LETTERS = 64;
    private static final int MOST_IN_ROW = 10;
    private static final int MOST_SEARCHED = 8;
    private static final int LAST_NEED_YEAR = 9;
    private static final int LAST_YEAR = 99;
    private static final int LAST_PLACE = 99;
    private static final int PLACE_STEP = 10;
    private static final int HELPS = 4;
    private static final int REFUSALS = 6;
    private static final int REFUSALS_FROM = 10;
    private static final int LAST_LETTER = 255;

    private static final int LASTS_YEARS = 30;
    // in mind the book has no end: LASTS writes a help a year for each one behind those that are there
    private static final int MOST_IN_MIND = MOST_HELPS + LASTS_YEARS * MOST_PEOPLE;
    private static final int LASTS_GRAVE = 5;
    private static final int MOST_GRAVE = 9;
    private static final int MOST_HANDS = 3;
    private static final int STRANGER_TIMES = 3;
    private static final int SEEDS_YEARS = 10;
    private static final int SEEDS_NEEDS = 3;
    private static final int MANY_TIMES = 999;

    private static final int KIND = 0;
    private static final int PLACE = 1;
    private static final int SKILL = 2;
    private static final int PERSON_COLUMNS = 6;

    private static final int DOCTOR = 1;
    private static final int CHILD = 2;
    private static final int OLD = 3;
    private static final int GUEST = 4;
    private static final int NURSE = 5;
    private static final int SHY = 6;
    private static final int SHY_MINUTES = 20;
    private static final int MINUTES_LESS_ONE = 10;
    private static final int OLD_LESS = 5;
    private static final int NURSE_MORE = 3;

    private static final int WHO = 0;
    private static final int HELP = 1;
    private static final int GRAVE = 2;
    private static final int HANDS = 3;
    private static final int NEED_YEAR = 4;
    // a bit for each one who has helped, so that nobody helps twice with one NEED
    private static final int HELPED_BY = 5;
    private static final int NEED_COLUMNS = 6;

    private static final int BOOK_HELPER = 0;
    private static final int BOOK_HELPED = 1;
    private static final int BOOK_YEAR = 2;
    private static final int BOOK_GRAVE = 3;
    private static final int BOOK_NEED = 4;
    private static final int BOOK_COLUMNS = 5;
    private static final int NO_NEED = -1;

    private static final int LAW = 0;
    private static final int SPAN = 1;
    private static final int SIZE = 2;
    private static final int OUT = 3;
    private static final int SETTINGS = 4;

    private static final int BOTH = 0;
    private static final int ONE = 1;
    private static final int YEARS = 2;
    private static final int SMALL = 3;

    private static final int NEAR = 0;
    private static final int SKILLED = 1;
    private static final int SPARE = 2;
    private static final int KEEP = 3;
    private static final int KIN = 4;
    private static final int TOLD = 5;

    private final Town now = new Town();
    private final Town mind = new Town();
    private final Town image = new Town();
    private boolean imageTaken;
    private final Search search = new Search();
    private final Letters letters = new Letters();
    private final int[] rowed = new int[MOST_IN_ROW];
    private int rowLength;
    private final int[] refused = new int[REFUSALS + 1];

    public HelpedOnlyOnce() {
    }

    public int feed(int letter) {
        if (letter < 0) {
            return refuse(BELOW);
        }
        if (letter > LAST_LETTER || letters.isFull()) {
            return refuse(ROOM);
        }
        return letters.take(letter);
    }

    public int town() {
        int fault = letters.fault();
        if (fault == Letters.SOUND) {
            mind.copyFrom(now);
            fault = letters.tell(mind);
        }
        letters.forget();
        if (fault < 0) {
            return fault;
        }
        now.copyFrom(mind);
        return fault;
    }

    public int person(int person, int what) {
        if (!now.hasPerson(person)) {
            return refuse(NO_SUCH);
        }
        if (what < 0 || what >= PERSON_COLUMNS) {
            return refuse(OTHER);
        }
        return now.ofPerson(person, what);
    }

    public int need(int need, int what) {
        if (!now.hasNeed(need)) {
            return refuse(NO_SUCH);
        }
        if (what < 0 || what >= NEED_COLUMNS) {
            return refuse(OTHER);
        }
        if (what == HELPED_BY) {
            return now.ofNeed(need, HANDS) - now.handsLeft(need);
        }
        return now.ofNeed(need, what);
    }

    public int set(int what, int v) {
        if (what < 0 || what >= SETTINGS) {
            return refuse(OTHER);
        }
        if (v < leastSetting(what)) {
            return refuse(BELOW);
        }
        if (v > greatestSetting(what)) {
            return refuse(ROOM);
        }
        int before = now.setting(what);
        now.settle(what, v);
        return before;
    }

    public int minutes(int one, int other) {
        if (!now.hasPerson(one) || !now.hasPerson(other)) {
            return refuse(NO_SUCH);
        }
        return now.minutesBetween(one, other);
    }

    public int spent(int helper, int helped) {
        if (!isPair(helper, helped)) {
            return refuse(NO_SUCH);
        }
        return now.isSpent(helper, helped) ? 1 : 0;
    }

    public int may(int helper, int helped) {
        if (!now.hasPerson(helper) || !now.hasPerson(helped)) {
            return refuse(NO_SUCH);
        }
        return now.mayHelp(helper, helped) ? 1 : 0;
    }

    public int good(int helper, int need) {
        if (!now.hasPerson(helper) || !now.hasNeed(need)) {
            return refuse(NO_SUCH);
        }
        return now.goodOf(helper, need);
    }

    public int help(int helper, int need) {
        if (!now.hasPerson(helper) || !now.hasNeed(need)) {
            return refuse(NO_SUCH);
        }
        if (!now.mayHelpWith(helper, need)) {
            return refuse(STATE);
        }
        if (now.bookIsFull()) {
            return refuse(ROOM);
        }
        now.doHelp(helper, need);
        return now.goodOf(helper, need);
    }

    public int back() {
        if (now.helps == 0) {
            return refuse(STATE);
        }
        now.takeBack();
        return now.helps;
    }

    public int year() {
        if (now.year >= LAST_YEAR) {
            return refuse(ROOM);
        }
        now.year++;
        return now.year;
    }

    public int chosen(int rule, int need) {
        if (!isRule(rule)) {
            return refuse(OTHER);
        }
        if (!now.hasNeed(need)) {
            return refuse(NO_SUCH);
        }
        return chosenBy(now, rule, need);
    }

    public int loss(int helper, int need) {
        if (!now.hasPerson(helper) || !now.hasNeed(need)) {
            return refuse(NO_SUCH);
        }
        return now.lossOf(helper, need);
    }

    public int run(int rule) {
        if (!isRule(rule)) {
            return refuse(OTHER);
        }
        return runSum(mindOfNow(), rule, 0);
    }

    public int without(int rule) {
        if (!isRule(rule)) {
            return refuse(OTHER);
        }
        runSum(mindOfNow(), rule, 0);
        return mind.handsLeftFrom(now.year);
    }

    public int most() {
        if (!search.fits(now)) {
            return refuse(ROOM);
        }
        return search.mostOf(mindOfNow());
    }

    public int first() {
        if (!search.fits(now)) {
            return refuse(ROOM);
        }
        search.mostOf(mindOfNow());
        return search.first;
    }

    public int gap(int rule) {
        if (!isRule(rule)) {
            return refuseFarOff(OTHER);
        }
        if (!search.fits(now)) {
            return refuseFarOff(ROOM);
        }
        int most = search.mostOf(mindOfNow());
        return most - runSum(mindOfNow(), rule, 0);
    }

    public int worth(int helper, int helped) {
        if (!isPair(helper, helped)) {
            return refuseFarOff(NO_SUCH);
        }
        if (!search.fits(now) || now.bookIsFull()) {
            return refuseFarOff(ROOM);
        }
        int most = search.mostOf(mindOfNow());
        return most - search.mostOf(mindWithHelp(helper, helped));
    }

    public int keeps(int helped) {
        if (!now.hasPerson(helped)) {
            return refuse(NO_SUCH);
        }
        if (!search.fits(now) || now.bookIsFull()) {
            return refuse(ROOM);
        }
        int kept = NOBODY;
        int least = search.mostOf(mindOfNow());
        for (int helper = 0; helper < now.people; helper++) {
            int with = helper == helped ? least : search.mostOf(mindWithHelp(helper, helped));
            if (with < least) {
                least = with;
                kept = helper;
            }
        }
        return kept;
    }

    public int lasts(int rule, int help) {
        if (!isRule(rule)) {
            return refuse(OTHER);
        }
        if (help < 0 || help >= HELPS) {
            return refuse(NO_SUCH);
        }
        if (now.people == 0) {
            return refuse(STATE);
        }
        mind.copyFrom(now);
        for (int years = 0; years < LASTS_YEARS; years++) {
            if (!allAreHelped(mind, rule, help)) {
                return years;
            }
            mind.year++;
        }
        return LASTS_YEARS;
    }

    public int many(int law, int n) {
        if (!isLaw(law)) {
            return refuse(OTHER);
        }
        if (n < 1) {
            return refuse(BELOW);
        }
        if (n > MANY_TIMES) {
            return refuse(ROOM);
        }
        return law == ONE ? n + 1 : 2 * n + 1;
    }

    public int move(int person, int place) {
        if (!now.hasPerson(person)) {
            return refuse(NO_SUCH);
        }
        if (place < 0) {
            return refuse(BELOW);
        }
        if (place > LAST_PLACE) {
            return refuse(ROOM);
        }
        int before = now.ofPerson(person, PLACE);
        now.putPerson(person, PLACE, place);
        return before;
    }

    public int bestPlace(int person) {
        if (!now.hasPerson(person)) {
            return refuse(NO_SUCH);
        }
        int best = 0;
        int greatest = -1;
        for (int place = 0; place <= LAST_PLACE; place += PLACE_STEP) {
            mind.copyFrom(now);
            mind.putPerson(person, PLACE, place);
            int sum = runSum(mind, SKILLED, 0);
            if (sum > greatest) {
                greatest = sum;
                best = place;
            }
        }
        return best;
    }

    public int strangers(int rule) {
        if (!isRule(rule)) {
            return refuse(OTHER);
        }
        return runSum(mindOfNow(), rule, now.setting(OUT));
    }

    public int smallest() {
        int best = 0;
        int greatest = -1;
        for (int size = 0; size <= greatestSetting(SIZE); size++) {
            mind.copyFrom(now);
            mind.settle(LAW, SMALL);
            mind.settle(SIZE, size);
            int sum = runSum(mind, SKILLED, 0);
            if (sum > greatest) {
                greatest = sum;
                best = size;
            }
        }
        return best;
    }

    public int byLaw(int law, int rule) {
        if (!isLaw(law) || !isRule(rule)) {
            return refuse(OTHER);
        }
        mind.copyFrom(now);
        mind.settle(LAW, law);
        return runSum(mind, rule, 0);
    }

    public int seeds(int rule, int n, int z) {
        if (!isRule(rule)) {
            return refuse(OTHER);
        }
        if (n < 1) {
            return refuse(BELOW);
        }
        if (n > SEEDS_YEARS) {
            return refuse(ROOM);
        }
        if (now.people == 0) {
            return refuse(STATE);
        }
        return seededSum(mindOfNow(), rule, n, z);
    }

    public int row(int person) {
        if (!now.hasPerson(person)) {
            return refuse(NO_SUCH);
        }
        if (rowLength < 0 || rowLength >= rowed.length) {
            return refuse(ROOM);
        }
        rowed[rowLength] = person;
        rowLength++;
        return rowLength;
    }

    public int judge() {
        int judged = judgedRow(mindOfNow());
        rowLength = 0;
        return judged;
    }

    public int clear() {
        int had = rowLength;
        rowLength = 0;
        return had;
    }

    public int image() {
        image.copyFrom(now);
        imageTaken = true;
        return now.year;
    }

    public int restore() {
        if (!imageTaken) {
            return refuse(STATE);
        }
        now.copyFrom(image);
        return now.year;
    }

    public int count(int what) {
        if (what > REFUSALS_FROM && what <= REFUSALS_FROM + REFUSALS) {
            return refused[what - REFUSALS_FROM];
        }
        switch (what) {
            case 0:
                return now.people;
            case 1:
                return now.needs;
            case 2:
                return now.helps;
            case 3:
                return now.openNeeds();
            case 4:
                return now.year;
            case 5:
                return letters.length;
            case 6:
                return rowLength;
            case 7:
                return now.setting(LAW);
            default:
                return NO_COUNT;
        }
    }

    private int refuse(int number) {
        if (number < 0 && number >= -REFUSALS) {
            refused[-number]++;
        }
        return number;
    }

    private int refuseFarOff(int number) {
        return FAR_OFF - refuse(number);
    }

    private boolean isPair(int helper, int helped) {
        return now.hasPerson(helper) && now.hasPerson(helped) && helper != helped;
    }

    private static boolean isRule(int rule) {
        return rule >= NEAR && rule <= TOLD;
    }

    private static boolean isLaw(int law) {
        return law >= BOTH && law <= SMALL;
    }

    private static int leastSetting(int what) {
        return what == SPAN ? 1 : 0;
    }

    private static int greatestSetting(int what) {
        return what == LAW ? SMALL : 9;
    }

    private int chosenBy(Town town, int rule, int need) {
        if (rule == TOLD) {
            return firstToldOf(town, need);
        }
        int chosen = NOBODY;
        int least = 0;
        for (int helper = 0; helper < town.people; helper++) {
            if (!town.mayHelpWith(helper, need) || isRuledOut(town, rule, helper, need)) {
                continue;
            }
            int price = priceBy(town, rule, helper, need);
            if (chosen == NOBODY || price < least) {
                least = price;
                chosen = helper;
            }
        }
        return chosen;
    }

    private int firstToldOf(Town town, int need) {
        for (int place = 0; place < rowLength && place < rowed.length; place++) {
            if (town.mayHelpWith(rowed[place], need)) {
                return rowed[place];
            }
        }
        return NOBODY;
    }

    private static boolean isRuledOut(Town town, int rule, int helper, int need) {
        if (rule == KEEP) {
            return town.lossOf(helper, need) >= town.goodOf(helper, need);
        }
        if (rule == KIN) {
            int who = town.ofNeed(need, WHO);
            return helper == who + 1 || helper == who - 1;
        }
        return false;
    }

    // all RULES choose where a price is least, so GOOD, of which the greatest is wanted, stands below none
    private static int priceBy(Town town, int rule, int helper, int need) {
        switch (rule) {
            case SKILLED:
                return -town.goodOf(helper, need);
            case SPARE:
            case KEEP:
                return town.lossOf(helper, need);
            default:
                return town.minutesBetween(helper, town.ofNeed(need, WHO));
        }
    }

    private int runSum(Town town, int rule, int strangers) {
        int sum = 0;
        int strangersLeft = strangers;
        for (int year = town.year; year <= LAST_NEED_YEAR; year++) {
            town.year = year;
            for (int need = 0; need < town.needs; need++) {
                int hands = town.isOpen(need) ? town.handsLeft(need) : 0;
                for (int hand = 0; hand < hands; hand++) {
                    int helper = chosenBy(town, rule, need);
                    if (helper >= 0) {
                        sum += town.goodOf(helper, need);
                        town.doHelp(helper, need);
                    } else if (strangersLeft > 0) {
                        sum += STRANGER_TIMES * town.ofNeed(need, GRAVE);
                        strangersLeft--;
                    }
                }
            }
        }
        return sum;
    }

    private Town mindOfNow() {
        mind.copyFrom(now);
        return mind;
    }

    private Town mindWithHelp(int helper, int helped) {
        mind.copyFrom(now);
        mind.write(helper, helped, MOST_GRAVE, NO_NEED);
        return mind;
    }

    private boolean allAreHelped(Town town, int rule, int help) {
        for (int who = 0; who < town.people; who++) {
            town.putOnlyNeed(who, help, LASTS_GRAVE);
            int helper = chosenBy(town, rule, 0);
            if (helper < 0) {
                return false;
            }
            town.doHelp(helper, 0);
        }
        return true;
    }

    private int seededSum(Town town, int rule, int years, int seed) {
        int z = seed;
        int sum = 0;
        for (int drawn = 0; drawn < years * SEEDS_NEEDS; drawn++) {
            z = nextSeed(z);
            int who = draw(z, town.people);
            z = nextSeed(z);
            int help = draw(z, HELPS);
            z = nextSeed(z);
            town.putOnlyNeed(who, help, 1 + draw(z, MOST_GRAVE));
            int helper = chosenBy(town, rule, 0);
            if (helper >= 0) {
                sum += town.goodOf(helper, 0);
                town.doHelp(helper, 0);
            }
            if (drawn % SEEDS_NEEDS == SEEDS_NEEDS - 1) {
                town.year++;
            }
        }
        return sum;
    }

    private static int nextSeed(int z) {
        return z * 1103515245 + 12345;
    }

    private static int draw(int z, int below) {
        return below > 0 ? ((z & 0x7fffffff) / 65536) % below : 0;
    }

    private int judgedRow(Town town) {
        int place = 0;
        for (int need = 0; need < town.needs; need++) {
            int hands = town.isOpen(need) ? town.handsLeft(need) : 0;
            for (int hand = 0; hand < hands; hand++) {
                if (place >= rowLength || place >= rowed.length || !town.mayHelpWith(rowed[place], need)) {
                    return place;
                }
                town.doHelp(rowed[place], need);
                place++;
            }
        }
        return place < rowLength ? place : ALL_MAY;
    }

    /** All that an image holds; one stands for now, one for what is only thought, one for the image. */
    private static final class Town {
        final int[] personTable = new int[MOST_PEOPLE * PERSON_COLUMNS];
        int people;
        final int[] needTable = new int[MOST_NEEDS * NEED_COLUMNS];
        int needs;
        final int[] bookTable = new int[MOST_IN_MIND * BOOK_COLUMNS];
        int helps;
        final int[] settings = {0, 3, 3, 0};
        int year;

        void copyFrom(Town other) {
            System.arraycopy(other.personTable, 0, personTable, 0, personTable.length);
            people = other.people;
            System.arraycopy(other.needTable, 0, needTable, 0, needTable.length);
            needs = other.needs;
            int written = Math.max(0, Math.min(other.helps, MOST_IN_MIND)) * BOOK_COLUMNS;
            System.arraycopy(other.bookTable, 0, bookTable, 0, written);
            helps = other.helps;
            System.arraycopy(other.settings, 0, settings, 0, settings.length);
            year = other.year;
        }

        boolean hasPerson(int person) {
            return person >= 0 && person < people;
        }

        boolean hasNeed(int need) {
            return need >= 0 && need < needs;
        }

        int ofPerson(int person, int what) {
            if (person < 0 || person >= MOST_PEOPLE || what < 0 || what >= PERSON_COLUMNS) {
                return 0;
            }
            return personTable[person * PERSON_COLUMNS + what];
        }

        void putPerson(int person, int what, int v) {
            if (person >= 0 && person < MOST_PEOPLE && what >= 0 && what < PERSON_COLUMNS) {
                personTable[person * PERSON_COLUMNS + what] = v;
            }
        }

        int ofNeed(int need, int what) {
            if (need < 0 || need >= MOST_NEEDS || what < 0 || what >= NEED_COLUMNS) {
                return 0;
            }
            return needTable[need * NEED_COLUMNS + what];
        }

        void putNeed(int need, int what, int v) {
            if (need >= 0 && need < MOST_NEEDS && what >= 0 && what < NEED_COLUMNS) {
                needTable[need * NEED_COLUMNS + what] = v;
            }
        }

        int setting(int what) {
            return what >= 0 && what < settings.length ? settings[what] : 0;
        }

        void settle(int what, int v) {
            if (what >= 0 && what < settings.length) {
                settings[what] = v;
            }
        }

        // NEEDS that only come in mind stand alone, so that no other one lies behind them
        void putOnlyNeed(int who, int help, int grave) {
            needs = 1;
            putNeed(0, WHO, who);
            putNeed(0, HELP, help);
            putNeed(0, GRAVE, grave);
            putNeed(0, HANDS, 1);
            putNeed(0, NEED_YEAR, year);
            putNeed(0, HELPED_BY, 0);
        }

        int minutesBetween(int one, int other) {
            return Math.abs(ofPerson(one, PLACE) - ofPerson(other, PLACE));
        }

        boolean isSpent(int helper, int helped) {
            if (ofPerson(helper, KIND) == GUEST) {
                return false;
            }
            boolean bothWays = settings[LAW] != ONE;
            for (int help = 0; help < helps && help < MOST_IN_MIND; help++) {
                int at = help * BOOK_COLUMNS;
                int one = bookTable[at + BOOK_HELPER];
                int other = bookTable[at + BOOK_HELPED];
                boolean ofPair = one == helper && other == helped || bothWays && one == helped && other == helper;
                if (ofPair && stillCounts(at)) {
                    return true;
                }
            }
            return false;
        }

        boolean stillCounts(int at) {
            if (at < 0 || at + BOOK_COLUMNS > bookTable.length) {
                return false;
            }
            if (settings[LAW] == YEARS) {
                return year - bookTable[at + BOOK_YEAR] < settings[SPAN];
            }
            return settings[LAW] != SMALL || bookTable[at + BOOK_GRAVE] >= settings[SIZE];
        }

        boolean mayHelp(int helper, int helped) {
            if (helper == helped || !hasPerson(helper) || !hasPerson(helped) || isSpent(helper, helped)) {
                return false;
            }
            return ofPerson(helper, KIND) != SHY || minutesBetween(helper, helped) <= SHY_MINUTES;
        }

        int handsLeft(int need) {
            return ofNeed(need, HANDS) - Integer.bitCount(ofNeed(need, HELPED_BY));
        }

        boolean isOpen(int need) {
            return hasNeed(need) && ofNeed(need, NEED_YEAR) == year && handsLeft(need) > 0;
        }

        int openNeeds() {
            int open = 0;
            for (int need = 0; need < needs; need++) {
                open += isOpen(need) ? 1 : 0;
            }
            return open;
        }

        int handsLeftFrom(int firstYear) {
            int left = 0;
            for (int need = 0; need < needs; need++) {
                left += ofNeed(need, NEED_YEAR) >= firstYear ? handsLeft(need) : 0;
            }
            return left;
        }

        boolean mayHelpWith(int helper, int need) {
            boolean helpedAlready = (ofNeed(need, HELPED_BY) & bitOf(helper)) != 0;
            return !helpedAlready && isOpen(need) && mayHelp(helper, ofNeed(need, WHO));
        }

        int goodOf(int helper, int need) {
            int whole = ofPerson(helper, SKILL + ofNeed(need, HELP)) * ofNeed(need, GRAVE);
            int minutes = minutesBetween(helper, ofNeed(need, WHO));
            int plain = Math.max(0, whole - minutes / MINUTES_LESS_ONE);
            int doctors = ofNeed(need, HELP) == 0 ? 2 * plain : plain;
            switch (ofPerson(helper, KIND)) {
                case DOCTOR:
                    return doctors;
                case CHILD:
                    return plain / 2;
                case OLD:
                    return Math.max(0, plain - OLD_LESS);
                case GUEST:
                    return whole;
                case NURSE:
                    return doctors + NURSE_MORE;
                case SHY:
                    return minutes > SHY_MINUTES ? 0 : plain / 2;
                default:
                    return plain;
            }
        }

        int lossOf(int helper, int need) {
            int most = 0;
            for (int other = need + 1; other < needs; other++) {
                if (ofNeed(other, WHO) == ofNeed(need, WHO)) {
                    most = Math.max(most, goodOf(helper, other));
                }
            }
            return most;
        }

        boolean bookIsFull() {
            return helps >= MOST_HELPS;
        }

        void doHelp(int helper, int need) {
            write(helper, ofNeed(need, WHO), ofNeed(need, GRAVE), need);
            putNeed(need, HELPED_BY, ofNeed(need, HELPED_BY) | bitOf(helper));
        }

        void write(int helper, int helped, int grave, int need) {
            if (helps < 0 || helps >= MOST_IN_MIND) {
                return;
            }
            int at = helps * BOOK_COLUMNS;
            bookTable[at + BOOK_HELPER] = helper;
            bookTable[at + BOOK_HELPED] = helped;
            bookTable[at + BOOK_YEAR] = year;
            bookTable[at + BOOK_GRAVE] = grave;
            bookTable[at + BOOK_NEED] = need;
            helps++;
        }

        void takeBack() {
            if (helps <= 0 || helps > MOST_IN_MIND) {
                return;
            }
            helps--;
            int at = helps * BOOK_COLUMNS;
            int need = bookTable[at + BOOK_NEED];
            putNeed(need, HELPED_BY, ofNeed(need, HELPED_BY) & ~bitOf(bookTable[at + BOOK_HELPER]));
        }

        static int bitOf(int helper) {
            return helper >= 0 && helper < MOST_PEOPLE ? 1 << helper : 0;
        }
    }

    /**
     * The search for MOST. What may still come is a bit for each HAND and each one who MAY help there then.
     * That is all that the HANDS behind depend on, so that what was found for the same bits serves again.
     */
    private static final class Search {
        // a slot is overwritten by the next one that falls on it, so that the rows never grow
        static final int SLOT_BITS = 10;

        final int[] needOfHand = new int[MOST_SEARCHED];
        int hands;
        final int[] goods = new int[MOST_SEARCHED * MOST_PEOPLE];
        final long[] stillMay = new long[MOST_SEARCHED * MOST_PEOPLE];
        final long[] slotKey = new long[1 << SLOT_BITS];
        final int[] slotSum = new int[1 << SLOT_BITS];
        int first;

        boolean fits(Town town) {
            int needs = 0;
            for (int need = 0; need < town.needs; need++) {
                needs += town.ofNeed(need, NEED_YEAR) >= town.year ? 1 : 0;
            }
            return needs <= MOST_SEARCHED && town.handsLeftFrom(town.year) <= MOST_SEARCHED;
        }

        int mostOf(Town town) {
            listHands(town);
            Arrays.fill(slotKey, 0L);
            long may = mayFrom(town, 0);
            for (int hand = 0; hand < hands; hand++) {
                foresee(town, hand, may);
            }
            first = NOBODY;
            int best = -1;
            for (int helper = 0; helper < MOST_PEOPLE; helper++) {
                int sum = sumWith(0, helper, may);
                if (sum > best) {
                    best = sum;
                    first = helper;
                }
            }
            int sumWithNobody = sumFrom(1, may);
            if (sumWithNobody > best) {
                best = sumWithNobody;
                first = NOBODY;
            }
            return best;
        }

        void listHands(Town town) {
            hands = 0;
            for (int year = town.year; year <= LAST_NEED_YEAR; year++) {
                for (int need = 0; need < town.needs; need++) {
                    int left = town.ofNeed(need, NEED_YEAR) == year ? town.handsLeft(need) : 0;
                    for (int hand = 0; hand < left && hands < needOfHand.length; hand++) {
                        needOfHand[hands] = need;
                        hands++;
                    }
                }
            }
        }

        int needOf(int hand) {
            return hand >= 0 && hand < hands && hand < needOfHand.length ? needOfHand[hand] : NO_NEED;
        }

        long mayFrom(Town town, int firstHand) {
            long may = 0;
            for (int hand = firstHand; hand < hands; hand++) {
                int need = needOf(hand);
                town.year = town.ofNeed(need, NEED_YEAR);
                for (int helper = 0; helper < town.people; helper++) {
                    may |= town.mayHelpWith(helper, need) ? bitOf(hand, helper) : 0L;
                }
            }
            return may;
        }

        // each help spends by itself, so that of several helps what each leaves is looked at alone
        void foresee(Town town, int hand, long may) {
            int need = needOf(hand);
            for (int helper = 0; helper < MOST_PEOPLE; helper++) {
                int at = hand * MOST_PEOPLE + helper;
                boolean inRows = at >= 0 && at < goods.length && at < stillMay.length;
                if (inRows && (may & bitOf(hand, helper)) != 0) {
                    town.year = town.ofNeed(need, NEED_YEAR);
                    goods[at] = town.goodOf(helper, need);
                    town.doHelp(helper, need);
                    stillMay[at] = mayFrom(town, hand + 1);
                    town.takeBack();
                }
            }
        }

        private int sumWith(int hand, int helper, long may) {
            int at = hand * MOST_PEOPLE + helper;
            boolean inRows = at >= 0 && at < goods.length && at < stillMay.length;
            if (!inRows || (may & bitOf(hand, helper)) == 0) {
                return -1;
            }
            return goods[at] + sumFrom(hand + 1, may & stillMay[at]);
        }

        private int sumFrom(int hand, long may) {
            if (hand >= hands || hand >= MOST_SEARCHED) {
                return 0;
            }
            long left = may & bitsFrom(hand);
            if (left == 0) {
                return 0;
            }
            int slot = slotOf(left);
            boolean inSlots = slot >= 0 && slot < slotKey.length && slot < slotSum.length;
            if (inSlots && slotKey[slot] == left) {
                return slotSum[slot];
            }
            int best = sumFrom(hand + 1, left);
            for (int helper = 0; helper < MOST_PEOPLE; helper++) {
                best = Math.max(best, sumWith(hand, helper, left));
            }
            if (inSlots) {
                slotKey[slot] = left;
                slotSum[slot] = best;
            }
            return best;
        }

        static long bitOf(int hand, int helper) {
            return 1L << (hand * MOST_PEOPLE + helper);
        }

        static long bitsFrom(int hand) {
            return -bitOf(hand, 0);
        }

        // any slot would do; an odd factor spreads bits that lie close together over all slots
        static int slotOf(long bits) {
            return (int) ((bits * 0x9E3779B97F4A7C15L) >>> (64 - SLOT_BITS));
        }
    }

    /** The letters fed so far, and the TOWN that they tell. */
    private static final class Letters {
        static final int SOUND = 0;
        static final int NO_LETTER = -1;
        static final int FAULT_OF_LETTER = -1000;
        static final int FAULT_OF_STATEMENT = -2000;

        final int[] fed = new int[MOST_LETTERS];
        int length;

        boolean isFull() {
            return length >= fed.length;
        }

        int take(int letter) {
            if (length >= 0 && length < fed.length) {
                fed[length] = letter;
                length++;
            }
            return length;
        }

        void forget() {
            length = 0;
        }

        int letterAt(int place) {
            return place >= 0 && place < length && place < fed.length ? fed[place] : NO_LETTER;
        }

        boolean isDigit(int place) {
            return letterAt(place) >= '0' && letterAt(place) <= '9';
        }

        int digit(int place) {
            return isDigit(place) ? letterAt(place) - '0' : 0;
        }

        // d stands for a digit; a second digit of the PLACE decides which of two forms is to be kept
        String restOf(int place) {
            switch (letterAt(place)) {
                case 'p':
                    return isDigit(place + 3) ? "ddd,dddd;" : "dd,dddd;";
                case 'n':
                    return "ddddd;";
                case 'l':
                    return "ddd;";
                default:
                    return "";
            }
        }

        int fault() {
            int place = 0;
            for (int statement = 0; statement < MOST_LETTERS; statement++) {
                String rest = restOf(place);
                if (rest.isEmpty()) {
                    return FAULT_OF_LETTER - place;
                }
                for (int i = 0; i < rest.length(); i++) {
                    place++;
                    boolean fits = rest.charAt(i) == 'd' ? isDigit(place) : letterAt(place) == rest.charAt(i);
                    if (!fits) {
                        return FAULT_OF_LETTER - place;
                    }
                }
                place++;
                if (place >= length) {
                    return SOUND;
                }
            }
            return SOUND;
        }

        // how many STATEMENTS came, or the FAULT
        int tell(Town town) {
            int statements = 0;
            for (int place = 0; place < length; place += 1 + restOf(place).length()) {
                if (!tellStatement(town, place)) {
                    return FAULT_OF_STATEMENT - place;
                }
                statements++;
            }
            return statements;
        }

        boolean tellStatement(Town town, int place) {
            switch (letterAt(place)) {
                case 'p':
                    return tellPerson(town, place);
                case 'n':
                    return tellNeed(town, place);
                default:
                    return tellLaw(town, place);
            }
        }

        boolean tellPerson(Town town, int place) {
            if (town.people >= MOST_PEOPLE || digit(place + 1) > SHY) {
                return false;
            }
            boolean twoDigits = isDigit(place + 3);
            int minutes = twoDigits ? digit(place + 2) * 10 + digit(place + 3) : digit(place + 2);
            int skills = twoDigits ? place + 5 : place + 4;
            town.putPerson(town.people, KIND, digit(place + 1));
            town.putPerson(town.people, PLACE, minutes);
            for (int help = 0; help < HELPS; help++) {
                town.putPerson(town.people, SKILL + help, digit(skills + help));
            }
            town.people++;
            return true;
        }

        boolean tellNeed(Town town, int place) {
            int hands = digit(place + 4);
            boolean known = town.hasPerson(digit(place + 1)) && digit(place + 2) < HELPS;
            if (town.needs >= MOST_NEEDS || !known || digit(place + 3) < 1 || hands < 1 || hands > MOST_HANDS) {
                return false;
            }
            for (int what = WHO; what <= NEED_YEAR; what++) {
                town.putNeed(town.needs, what, digit(place + 1 + what));
            }
            town.putNeed(town.needs, HELPED_BY, 0);
            town.needs++;
            return true;
        }

        boolean tellLaw(Town town, int place) {
            for (int what = LAW; what <= SIZE; what++) {
                int v = digit(place + 1 + what);
                if (v < leastSetting(what) || v > greatestSetting(what)) {
                    return false;
                }
            }
            for (int what = LAW; what <= SIZE; what++) {
                town.settle(what, digit(place + 1 + what));
            }
            return true;
        }
    }
}
