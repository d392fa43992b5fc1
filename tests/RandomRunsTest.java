import java.util.Arrays;
import java.util.Random;

/** Runs of calls by fixed seeds; each answer is compared with the Oracle's. */
public final class RandomRunsTest {
    private static final int RUNS = 3000;
    private static final int CALLS = 512;
    private static final int CALL_KINDS = 36;

    private final Random random;
    private final HelpedOnlyOnce x = new HelpedOnlyOnce();
    private final Oracle o = new Oracle();
    private final StringBuilder told = new StringBuilder();
    private int calls = 0;
    private boolean wrong = false;

    private RandomRunsTest(long seed) {
        random = new Random(seed);
    }

    public static void main(String[] args) {
        int runs = args.length > 0 ? Integer.parseInt(args[0]) : RUNS;
        int failed = 0;
        for (int seed = 0; seed < runs && failed < 5; seed++) {
            failed += new RandomRunsTest(seed).isRight() ? 0 : 1;
        }
        System.out.println("RandomRunsTest: " + (runs - failed) + " passed, " + failed + " failed");
        System.exit(failed == 0 ? 0 : 1);
    }

    private boolean isRight() {
        int people = random.nextInt(8);
        for (int i = 0; i < people; i++) {
            tell(personText());
        }
        if (random.nextInt(4) > 0) {
            tell(lawText());
        }
        int needs = people == 0 ? 0 : random.nextInt(9);
        for (int i = 0; i < needs; i++) {
            tell(needText(people));
        }
        while (calls < CALLS && !wrong) {
            step();
        }
        if (wrong) {
            System.out.println(told.substring(Math.max(0, told.length() - 2000)));
        }
        return !wrong;
    }

    private void step() {
        int kind = random.nextInt(CALL_KINDS + 20);
        if (kind < CALL_KINDS) {
            call(kind, number(), number(), number());
        } else if (kind < CALL_KINDS + 14) {
            call(10, random.nextInt(7), random.nextInt(8), 0);
        } else if (kind < CALL_KINDS + 16) {
            call(30, random.nextInt(7), 0, 0);
        } else if (random.nextInt(8) == 0) {
            tell(anyText());
        }
    }

    private int number() {
        return switch (random.nextInt(12)) {
            case 0 -> -1;
            case 1 -> random.nextInt();
            case 2 -> random.nextInt(110);
            case 3 -> random.nextInt(1200);
            default -> random.nextInt(8);
        };
    }

    private String personText() {
        int place = random.nextInt(random.nextInt(2) == 0 ? 100 : 30);
        return "p" + random.nextInt(7) + place + "," + digits(4, 10) + ";";
    }

    private String needText(int people) {
        return "n" + random.nextInt(people) + random.nextInt(4) + (1 + random.nextInt(9))
            + Math.max(1, random.nextInt(6) - 2) + random.nextInt(random.nextInt(3) == 0 ? 10 : 3) + ";";
    }

    private String lawText() {
        return "l" + random.nextInt(4) + (1 + random.nextInt(9)) + random.nextInt(10) + ";";
    }

    private String digits(int many, int below) {
        StringBuilder text = new StringBuilder();
        for (int i = 0; i < many; i++) {
            text.append(random.nextInt(below));
        }
        return text.toString();
    }

    private String anyText() {
        StringBuilder text = new StringBuilder();
        for (int i = random.nextInt(5); i >= 0; i--) {
            text.append(switch (random.nextInt(6)) {
                case 0 -> personText();
                case 1, 2 -> needText(7);
                case 3 -> lawText();
                case 4 -> "n" + digits(5, 5) + ";";
                default -> "l" + digits(3, 5) + ";";
            });
        }
        if (random.nextInt(3) == 0) {
            text.setCharAt(random.nextInt(text.length()), "pnl,;0123456789 x".charAt(random.nextInt(17)));
        }
        if (random.nextInt(8) == 0) {
            text.setLength(random.nextInt(text.length()));
        }
        return text.toString();
    }

    private void tell(String text) {
        for (int i = 0; i < text.length(); i++) {
            call(0, text.charAt(i), 0, 0);
        }
        call(1, 0, 0, 0);
    }

    private void call(int kind, int a, int b, int c) {
        if (calls >= CALLS || wrong || kind >= 17 && kind <= 21 && !o.isQuick()) {
            return;
        }
        calls++;
        int got = answer(kind, a, b, c);
        int due = due(kind, a, b, c);
        told.append("call ").append(kind).append(' ').append(Arrays.toString(new int[] {a, b, c})).append(" = ").append(got).append('\n');
        if (got != due) {
            told.append("due is ").append(due).append('\n');
            wrong = true;
        }
    }

    private int answer(int kind, int a, int b, int c) {
        return switch (kind) {
            case 0 -> x.feed(a);
            case 1 -> x.town();
            case 2 -> x.person(a, b);
            case 3 -> x.need(a, b);
            case 4 -> x.set(a, b);
            case 5 -> x.minutes(a, b);
            case 6 -> x.spent(a, b);
            case 7 -> x.may(a, b);
            case 8 -> x.good(a, b);
            case 9, 10 -> x.help(a, b);
            case 11 -> x.back();
            case 12 -> b == 1 ? x.year() : x.count(a);
            case 13 -> x.chosen(a, b);
            case 14 -> x.loss(a, b);
            case 15 -> x.run(a);
            case 16 -> x.without(a);
            case 17 -> x.most();
            case 18 -> x.first();
            case 19 -> x.gap(a);
            case 20 -> x.worth(a, b);
            case 21 -> x.keeps(a);
            case 22 -> x.lasts(a, b);
            case 23 -> x.many(a, b);
            case 24 -> x.move(a, b);
            case 25 -> x.bestPlace(a);
            case 26 -> x.strangers(a);
            case 27 -> x.smallest();
            case 28 -> x.byLaw(a, b);
            case 29 -> x.seeds(a, b, c);
            case 30 -> x.row(a);
            case 31 -> x.judge();
            case 32 -> b == 1 ? x.clear() : x.count(a);
            case 33 -> x.image();
            case 34 -> x.restore();
            default -> x.count(a + 10);
        };
    }

    private int due(int kind, int a, int b, int c) {
        return switch (kind) {
            case 0 -> o.feed(a);
            case 1 -> o.town();
            case 2 -> o.person(a, b);
            case 3 -> o.need(a, b);
            case 4 -> o.set(a, b);
            case 5 -> o.minutes(a, b);
            case 6 -> o.spent(a, b);
            case 7 -> o.may(a, b);
            case 8 -> o.good(a, b);
            case 9, 10 -> o.help(a, b);
            case 11 -> o.back();
            case 12 -> b == 1 ? o.year() : o.count(a);
            case 13 -> o.chosen(a, b);
            case 14 -> o.loss(a, b);
            case 15 -> o.run(a);
            case 16 -> o.without(a);
            case 17 -> o.most();
            case 18 -> o.first();
            case 19 -> o.gap(a);
            case 20 -> o.worth(a, b);
            case 21 -> o.keeps(a);
            case 22 -> o.lasts(a, b);
            case 23 -> o.many(a, b);
            case 24 -> o.move(a, b);
            case 25 -> o.bestPlace(a);
            case 26 -> o.strangers(a);
            case 27 -> o.smallest();
            case 28 -> o.byLaw(a, b);
            case 29 -> o.seeds(a, b, c);
            case 30 -> o.row(a);
            case 31 -> o.judge();
            case 32 -> b == 1 ? o.clear() : o.count(a);
            case 33 -> o.image();
            case 34 -> o.restore();
            default -> o.count(a + 10);
        };
    }
}
