import java.util.ArrayList;
import java.util.Arrays;
import java.util.HashSet;
import java.util.List;
import java.util.Set;
import java.util.function.Predicate;
import java.util.function.ToIntFunction;

/**
 * The same document once more, slow and with the whole Java library, for RandomRunsTest to compare with.
 * It shares no code with the class, and looks at every way where the class is clever.
 */
final class Oracle {
    record Person(int kind, int place, int[] skills) {
        Person at(int elsewhere) {
            return new Person(kind, elsewhere, skills);
        }
    }

    record Need(int who, int help, int grave, int hands, int year) { }

    record Help(int helper, int helped, int year, int grave, Need need) { }

    /** Never changed: each change is a new World, so that an image or a thought is just an older one. */
    record World(List<Person> people, List<Need> needs, List<Help> book, int law, int span, int size, int out, int year) {
        World year(int y) {
            return new World(people, needs, book, law, span, size, out, y);
        }

        World laws(int l, int sp, int si, int o) {
            return new World(people, needs, book, l, sp, si, o, year);
        }

        World people(List<Person> p) {
            return new World(p, needs, book, law, span, size, out, year);
        }

        World needs(List<Need> n) {
            return new World(people, n, book, law, span, size, out, year);
        }

        World book(List<Help> b) {
            return new World(people, needs, b, law, span, size, out, year);
        }

        World helped(int helper, Need need) {
            return book(plus(book, new Help(helper, need.who(), year, need.grave(), need)));
        }

        int minutes(int one, int other) {
            return Math.abs(people.get(one).place() - people.get(other).place());
        }

        boolean counts(Help h) {
            return switch (law) {
                case 2 -> year < h.year() + span;
                case 3 -> !(h.grave() < size);
                default -> true;
            };
        }

        boolean spent(int helper, int helped) {
            if (people.get(helper).kind() == 4) {
                return false;
            }
            return book.stream().filter(this::counts).anyMatch(h -> h.helper() == helper && h.helped() == helped
                || law != 1 && h.helper() == helped && h.helped() == helper);
        }

        boolean may(int helper, int helped) {
            if (helper >= people.size() || helped >= people.size() || helper == helped) {
                return false;
            }
            if (people.get(helper).kind() == 6 && minutes(helper, helped) > 20) {
                return false;
            }
            return !spent(helper, helped);
        }

        long haveHelped(Need need) {
            return book.stream().filter(h -> h.need() == need).count();
        }

        int left(Need need) {
            return need.hands() - (int) haveHelped(need);
        }

        boolean open(Need need) {
            return need.year() == year && left(need) > 0;
        }

        boolean mayWith(int helper, Need need) {
            return open(need) && may(helper, need.who()) && book.stream().noneMatch(h -> h.need() == need && h.helper() == helper);
        }

        int good(int helper, Need need) {
            Person p = people.get(helper);
            int min = minutes(helper, need.who());
            int raw = p.skills()[need.help()] * need.grave();
            int person = raw - min / 10 < 0 ? 0 : raw - min / 10;
            int doctor = need.help() == 0 ? person + person : person;
            int child = person / 2;
            return switch (p.kind()) {
                case 0 -> person;
                case 1 -> doctor;
                case 2 -> child;
                case 3 -> person < 5 ? 0 : person - 5;
                case 4 -> raw;
                case 5 -> doctor + 3;
                default -> min > 20 ? 0 : child;
            };
        }

        int loss(int helper, Need need) {
            int from = -1;
            for (int i = 0; i < needs.size(); i++) {
                from = needs.get(i) == need ? i : from;
            }
            int loss = 0;
            if (from >= 0) {
                for (Need n : needs.subList(from + 1, needs.size())) {
                    loss = n.who() == need.who() ? Math.max(loss, good(helper, n)) : loss;
                }
            }
            return loss;
        }

        int chosen(int rule, Need need, List<Integer> row) {
            if (rule == 5) {
                return row.stream().filter(p -> mayWith(p, need)).findFirst().orElse(-9);
            }
            ToIntFunction<Integer> worst = p -> rule == 0 || rule == 4 ? minutes(p, need.who())
                : rule == 1 ? -good(p, need) : loss(p, need);
            Predicate<Integer> fit = p -> rule == 3 ? loss(p, need) < good(p, need)
                : rule != 4 || Math.abs(p - need.who()) != 1;
            int best = -9;
            for (int p = people.size() - 1; p >= 0; p--) {
                if (mayWith(p, need) && fit.test(p) && (best < 0 || worst.applyAsInt(p) <= worst.applyAsInt(best))) {
                    best = p;
                }
            }
            return best;
        }

        List<Need> comingHands() {
            List<Need> hands = new ArrayList<>();
            for (int y = year; y <= 9; y++) {
                for (Need n : needs) {
                    for (int k = 0; n.year() == y && k < left(n); k++) {
                        hands.add(n);
                    }
                }
            }
            return hands;
        }

        /** The sum, and how many hands were left. */
        int[] run(int rule, List<Integer> row, int strangers) {
            World w = this;
            int sum = 0;
            int without = 0;
            for (Need n : comingHands()) {
                w = w.year(n.year());
                int p = w.chosen(rule, n, row);
                if (p >= 0) {
                    sum += w.good(p, n);
                    w = w.helped(p, n);
                } else {
                    without++;
                    sum += strangers-- > 0 ? 3 * n.grave() : 0;
                }
            }
            return new int[] {sum, without};
        }

        boolean searchable() {
            return needs.stream().filter(n -> n.year() >= year).count() <= 8 && comingHands().size() <= 8;
        }

        /** The sum of the best way, and who is first in the first of the best. */
        int[] most() {
            int[] best = {-1, -9};
            List<Need> hands = comingHands();
            ways(this, hands, 0, 0, -9, best);
            return best;
        }

        private static void ways(World w, List<Need> hands, int at, int sum, int first, int[] best) {
            if (at == hands.size()) {
                if (sum > best[0]) {
                    best[0] = sum;
                    best[1] = first;
                }
                return;
            }
            Need n = hands.get(at);
            World then = w.year(n.year());
            for (int p = 0; p < w.people.size(); p++) {
                if (then.mayWith(p, n)) {
                    ways(then.helped(p, n), hands, at + 1, sum + then.good(p, n), at == 0 ? p : first, best);
                }
            }
            ways(then, hands, at + 1, sum, first, best);
        }
    }

    private World now = new World(List.of(), List.of(), List.of(), 0, 3, 3, 0, 0);
    private World kept = null;
    private final StringBuilder letters = new StringBuilder();
    private final List<Integer> row = new ArrayList<>();
    private final int[] refusals = new int[7];

    private static <T> List<T> plus(List<T> list, T one) {
        List<T> longer = new ArrayList<>(list);
        longer.add(one);
        return longer;
    }

    private static <T> List<T> with(List<T> list, int at, T one) {
        List<T> other = new ArrayList<>(list);
        other.set(at, one);
        return other;
    }

    private int no(int kind) {
        refusals[-kind]++;
        return kind;
    }

    private int noFar(int kind) {
        return 1000000000 - no(kind);
    }

    private boolean one(int p) {
        return p >= 0 && p < now.people().size();
    }

    private boolean need_(int n) {
        return n >= 0 && n < now.needs().size();
    }

    private static boolean rule(int r) {
        return r >= 0 && r <= 5;
    }

    /** Whether all ways can be looked at in little time, or none need be. */
    boolean isQuick() {
        return !now.searchable() || Math.pow(Math.max(1, now.people().size()), now.comingHands().size()) < 20000;
    }

    int feed(int letter) {
        if (letter < 0) return no(-4);
        if (letter > 255 || letters.length() == 64) return no(-6);
        letters.append((char) letter);
        return letters.length();
    }

    /** Whether some TOWN begins with this text: tried with every way to end each STATEMENT. */
    private static boolean canGoOn(String text) {
        return text.matches("(p[0-9]{2,3},[0-9]{4};|n[0-9]{5};|l[0-9]{3};)*"
            + "(|p|p[0-9]|p[0-9]{2}|p[0-9]{3}|p[0-9]{2,3},[0-9]{0,4}|n[0-9]{0,5}|l[0-9]{0,3})");
    }

    private static boolean isTown(String text) {
        return text.matches("(p[0-9]{2,3},[0-9]{4};|n[0-9]{5};|l[0-9]{3};)+");
    }

    int town() {
        String text = letters.toString();
        letters.setLength(0);
        if (!isTown(text)) {
            for (int i = 0; i < text.length(); i++) {
                if (!canGoOn(text.substring(0, i + 1))) return -1000 - i;
            }
            return -1000 - text.length();
        }
        World w = now;
        int place = 0;
        int told = 0;
        for (String s : text.split(";")) {
            int[] d = s.chars().filter(c -> c != ',').skip(1).map(c -> c - '0').toArray();
            if (s.charAt(0) == 'p') {
                if (w.people().size() == 7 || d[0] > 6) return -2000 - place;
                int comma = s.indexOf(',');
                int[] skills = Arrays.copyOfRange(d, d.length - 4, d.length);
                w = w.people(plus(w.people(), new Person(d[0], Integer.parseInt(s.substring(2, comma)), skills)));
            } else if (s.charAt(0) == 'n') {
                if (w.needs().size() == 12 || d[0] >= w.people().size() || d[1] > 3 || d[2] < 1 || d[3] < 1 || d[3] > 3) {
                    return -2000 - place;
                }
                w = w.needs(plus(w.needs(), new Need(d[0], d[1], d[2], d[3], d[4])));
            } else {
                if (d[0] > 3 || d[1] < 1) return -2000 - place;
                w = w.laws(d[0], d[1], d[2], w.out());
            }
            place += s.length() + 1;
            told++;
        }
        now = w;
        return told;
    }

    int person(int p, int what) {
        if (!one(p)) return no(-1);
        Person q = now.people().get(p);
        if (what == 0) return q.kind();
        if (what == 1) return q.place();
        return what >= 2 && what <= 5 ? q.skills()[what - 2] : no(-2);
    }

    int need(int n, int what) {
        if (!need_(n)) return no(-1);
        Need q = now.needs().get(n);
        return switch (what) {
            case 0 -> q.who();
            case 1 -> q.help();
            case 2 -> q.grave();
            case 3 -> q.hands();
            case 4 -> q.year();
            case 5 -> (int) now.haveHelped(q);
            default -> no(-2);
        };
    }

    int set(int what, int v) {
        if (what < 0 || what > 3) return no(-2);
        int[] least = {0, 1, 0, 0};
        int[] most = {3, 9, 9, 9};
        if (v < least[what]) return no(-4);
        if (v > most[what]) return no(-6);
        int[] all = {now.law(), now.span(), now.size(), now.out()};
        int was = all[what];
        all[what] = v;
        now = now.laws(all[0], all[1], all[2], all[3]);
        return was;
    }

    int minutes(int a, int b) {
        return one(a) && one(b) ? now.minutes(a, b) : no(-1);
    }

    int spent(int a, int b) {
        return !one(a) || !one(b) || a == b ? no(-1) : now.spent(a, b) ? 1 : 0;
    }

    int may(int a, int b) {
        return !one(a) || !one(b) ? no(-1) : now.may(a, b) ? 1 : 0;
    }

    int good(int p, int n) {
        return one(p) && need_(n) ? now.good(p, now.needs().get(n)) : no(-1);
    }

    int help(int p, int n) {
        if (!one(p) || !need_(n)) return no(-1);
        Need need = now.needs().get(n);
        if (!now.mayWith(p, need)) return no(-3);
        if (now.book().size() >= 60) return no(-6);
        now = now.helped(p, need);
        return now.good(p, need);
    }

    int back() {
        int n = now.book().size();
        if (n == 0) return no(-3);
        now = now.book(new ArrayList<>(now.book().subList(0, n - 1)));
        return n - 1;
    }

    int year() {
        if (now.year() == 99) return no(-6);
        now = now.year(now.year() + 1);
        return now.year();
    }

    int chosen(int r, int n) {
        if (!rule(r)) return no(-2);
        return need_(n) ? now.chosen(r, now.needs().get(n), row) : no(-1);
    }

    int loss(int p, int n) {
        return one(p) && need_(n) ? now.loss(p, now.needs().get(n)) : no(-1);
    }

    int run(int r) {
        return rule(r) ? now.run(r, row, 0)[0] : no(-2);
    }

    int without(int r) {
        return rule(r) ? now.run(r, row, 0)[1] : no(-2);
    }

    int most() {
        return now.searchable() ? now.most()[0] : no(-6);
    }

    int first() {
        return now.searchable() ? now.most()[1] : no(-6);
    }

    int gap(int r) {
        if (!rule(r)) return noFar(-2);
        return now.searchable() ? now.most()[0] - now.run(r, row, 0)[0] : noFar(-6);
    }

    private int worthOf(int a, int b) {
        World then = now.book(plus(now.book(), new Help(a, b, now.year(), 9, null)));
        return now.most()[0] - then.most()[0];
    }

    int worth(int a, int b) {
        if (!one(a) || !one(b) || a == b) return noFar(-1);
        return now.searchable() && now.book().size() < 60 ? worthOf(a, b) : noFar(-6);
    }

    int keeps(int b) {
        if (!one(b)) return no(-1);
        if (!now.searchable() || now.book().size() >= 60) return no(-6);
        int best = -9;
        int most = 0;
        for (int a = 0; a < now.people().size(); a++) {
            int worth = a == b ? 0 : worthOf(a, b);
            if (worth > most) {
                most = worth;
                best = a;
            }
        }
        return best;
    }

    int lasts(int r, int h) {
        if (!rule(r)) return no(-2);
        if (h < 0 || h > 3) return no(-1);
        if (now.people().isEmpty()) return no(-3);
        World w = now;
        for (int years = 0; years < 30; years++) {
            for (int p = 0; p < now.people().size(); p++) {
                Need n = new Need(p, h, 5, 1, w.year());
                int helper = w.needs(List.of(n)).chosen(r, n, row);
                if (helper < 0) return years;
                w = w.helped(helper, n);
            }
            w = w.year(w.year() + 1);
        }
        return 30;
    }

    int many(int law, int n) {
        if (law < 0 || law > 3) return no(-2);
        if (n < 1) return no(-4);
        if (n > 999) return no(-6);
        return 1 + n + (law == 1 ? 0 : n);
    }

    int move(int p, int place) {
        if (!one(p)) return no(-1);
        if (place < 0) return no(-4);
        if (place > 99) return no(-6);
        Person was = now.people().get(p);
        now = now.people(with(now.people(), p, was.at(place)));
        return was.place();
    }

    int bestPlace(int p) {
        if (!one(p)) return no(-1);
        int best = -1;
        int at = 0;
        for (int place = 0; place < 100; place += 10) {
            int sum = now.people(with(now.people(), p, now.people().get(p).at(place))).run(1, row, 0)[0];
            if (sum > best) {
                best = sum;
                at = place;
            }
        }
        return at;
    }

    int strangers(int r) {
        return rule(r) ? now.run(r, row, now.out())[0] : no(-2);
    }

    int smallest() {
        int best = 0;
        for (int size = 1; size <= 9; size++) {
            int than = now.laws(3, now.span(), best, now.out()).run(1, row, 0)[0];
            best = now.laws(3, now.span(), size, now.out()).run(1, row, 0)[0] > than ? size : best;
        }
        return best;
    }

    int byLaw(int law, int r) {
        if (law < 0 || law > 3 || !rule(r)) return no(-2);
        return now.laws(law, now.span(), now.size(), now.out()).run(r, row, 0)[0];
    }

    int seeds(int r, int n, int z) {
        if (!rule(r)) return no(-2);
        if (n < 1) return no(-4);
        if (n > 10) return no(-6);
        if (now.people().isEmpty()) return no(-3);
        int[] seed = {z};
        ToIntFunction<Integer> draw = below -> {
            seed[0] = seed[0] * 1103515245 + 12345;
            return (int) ((seed[0] & 0x7fffffffL) >> 16) % below;
        };
        World w = now;
        int sum = 0;
        for (int y = 0; y < n; y++) {
            for (int k = 0; k < 3; k++) {
                int who = draw.applyAsInt(now.people().size());
                int help = draw.applyAsInt(4);
                Need need = new Need(who, help, 1 + draw.applyAsInt(9), 1, w.year());
                int helper = w.needs(List.of(need)).chosen(r, need, row);
                if (helper >= 0) {
                    sum += w.good(helper, need);
                    w = w.helped(helper, need);
                }
            }
            w = w.year(w.year() + 1);
        }
        return sum;
    }

    int row(int p) {
        if (!one(p)) return no(-1);
        if (row.size() == 10) return no(-6);
        row.add(p);
        return row.size();
    }

    int judge() {
        List<Integer> judged = new ArrayList<>(row);
        row.clear();
        List<Need> hands = new ArrayList<>();
        for (Need n : now.needs()) {
            for (int k = 0; now.open(n) && k < now.left(n); k++) {
                hands.add(n);
            }
        }
        World w = now;
        for (int k = 0; k < Math.min(hands.size(), judged.size()); k++) {
            if (!w.mayWith(judged.get(k), hands.get(k))) return k;
            w = w.helped(judged.get(k), hands.get(k));
        }
        return hands.size() == judged.size() ? -9 : Math.min(hands.size(), judged.size());
    }

    int clear() {
        int had = row.size();
        row.clear();
        return had;
    }

    int image() {
        kept = now;
        return now.year();
    }

    int restore() {
        if (kept == null) return no(-3);
        now = kept;
        return now.year();
    }

    int count(int what) {
        Set<Integer> refused = new HashSet<>(List.of(11, 12, 13, 14, 15, 16));
        if (refused.contains(what)) return refusals[what - 10];
        return switch (what) {
            case 0 -> now.people().size();
            case 1 -> now.needs().size();
            case 2 -> now.book().size();
            case 3 -> (int) now.needs().stream().filter(now::open).count();
            case 4 -> now.year();
            case 5 -> letters.length();
            case 6 -> row.size();
            case 7 -> now.law();
            default -> -9;
        };
    }
}
