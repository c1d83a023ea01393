import java.nio.charset.StandardCharsets;
import java.util.Random;
import java.util.function.LongSupplier;

/** Runs of calls by chance (the same each time), each answered by LeadPark and by the Model alike. */
public final class RandomRunsTest {
    private static final int RUNS = 1000;
    private static final int CALLS = 200;

    private final Random chance;
    private final LeadPark park = new LeadPark();
    private final Model model = new Model();
    private final StringBuilder story = new StringBuilder();
    /** Points are taken from 0 up to here: few of them meet one another more often. */
    private final int width;
    private final int mostCorners;

    private RandomRunsTest(int seed) {
        chance = new Random(seed);
        width = new int[] {3, 6, 12, 1000}[chance.nextInt(4)];
        mostCorners = new int[] {3, 5, 11}[chance.nextInt(3)];
    }

    public static void main(String[] args) {
        int runs = args.length > 0 ? Integer.parseInt(args[0]) : RUNS;
        int base = args.length > 1 ? Integer.parseInt(args[1]) : 0;
        for (int run = 0; run < runs; run++) {
            RandomRunsTest test = new RandomRunsTest(base + run);
            test.tellSomeWays();
            for (int k = 0; k < CALLS; k++) {
                if (!test.call()) {
                    System.out.println("run " + (base + run) + "\n" + test.story);
                    System.exit(1);
                }
            }
        }
        System.out.println(runs + " runs by chance are as due");
    }

    /** Most runs have some ways from the begin on. */
    private void tellSomeWays() {
        StringBuilder all = new StringBuilder();
        int ways = upTo(5);
        for (int k = 0; k < ways; k++) {
            all.append(k == 0 ? "" : ";").append("way").append(points(1 + upTo(mostCorners - 1)));
        }
        if (!told(all.toString()) | !same("park", park::park, model::park)) {
            throw new IllegalStateException(story.toString());
        }
    }

    private boolean same(String call, LongSupplier got, LongSupplier due) {
        String answer = Checks.outcome(got);
        String want = Checks.outcome(due);
        story.append(call).append(" ").append(answer);
        story.append(answer.equals(want) ? "\n" : ", due is " + want + "\n");
        return answer.equals(want);
    }

    private boolean told(String text) {
        byte[] bytes = text.getBytes(StandardCharsets.ISO_8859_1);
        story.append("text [").append(text).append("]\n");
        boolean right = true;
        for (int from = 0; from < bytes.length; from += 20) {
            int a = Texts.word(bytes, from);
            int b = Texts.word(bytes, from + 4);
            int c = Texts.word(bytes, from + 8);
            int d = Texts.word(bytes, from + 12);
            int e = Texts.word(bytes, from + 16);
            right &= same("feed", () -> park.feed(a, b, c, d, e), () -> model.feed(a, b, c, d, e));
        }
        return right & same("end", () -> bit(park.end(bytes.length)), () -> bit(model.end(bytes.length)));
    }

    private static long bit(boolean answer) {
        return answer ? 1 : 0;
    }

    private int upTo(int most) {
        return chance.nextInt(most + 1);
    }

    private int point() {
        return chance.nextInt(width);
    }

    private String points(int times) {
        StringBuilder all = new StringBuilder();
        for (int k = 0; k < times; k++) {
            all.append(' ').append(point()).append(' ').append(point());
        }
        return all.toString();
    }

    private String parkText() {
        StringBuilder all = new StringBuilder();
        int lines = upTo(upTo(9) == 0 ? 16 : 3);
        for (int k = 0; k < lines; k++) {
            all.append(k == 0 ? "" : ";");
            int kind = upTo(9);
            if (kind < 5) {
                all.append("way").append(points(1 + upTo(mostCorners - 1)));
            } else if (kind < 8) {
                all.append("more ").append(upTo(3)).append(points(1 + upTo(1)));
            } else {
                int x = point();
                int y = point();
                all.append("wall ").append(x + " " + y + " ").append(Math.max(0, x - upTo(1)) + " ")
                        .append(Math.max(0, y - upTo(1)));
            }
        }
        return spoilt(all.toString());
    }

    private String sum() {
        String[] parts = {"man", "dog", "far", "mx", "my", "dx", "dy"};
        StringBuilder all = new StringBuilder();
        int more = upTo(2);
        for (int k = 0; k <= more; k++) {
            all.append(k == 0 ? "" : "+").append(upTo(2) == 0 ? "" + upTo(width * 2) : parts[upTo(6)]);
        }
        return all.toString();
    }

    private String condition(int depth) {
        StringBuilder all = new StringBuilder();
        int more = upTo(2);
        for (int k = 0; k <= more; k++) {
            all.append(k == 0 ? "" : upTo(1) == 0 ? " and " : " or ");
            int kind = upTo(depth > 6 ? 0 : 3);
            if (kind == 3) {
                all.append("(").append(condition(depth + 1)).append(")");
            } else if (kind == 2) {
                all.append("not ").append(upTo(1) == 0 ? "(" + condition(depth + 2) + ")" : sum() + "<" + sum());
            } else {
                all.append(sum()).append(upTo(1) == 0 ? " < " : " > ").append(sum());
            }
        }
        return all.toString();
    }

    private String lawText() {
        StringBuilder all = new StringBuilder();
        int lines = upTo(upTo(9) == 0 ? 14 : 2);
        for (int k = 0; k < lines; k++) {
            all.append(k == 0 ? "" : ";").append("bar");
            int much = upTo(Math.min(999999, width * width));
            int kind = upTo(29);
            if (kind > 20) {
                all.append(" if far > ").append(much);
            } else if (kind > 2) {
                all.append(" if (").append(condition(upTo(4))).append(") and far > ").append(much);
            } else if (kind > 0) {
                all.append(" if ").append(condition(upTo(5)));
            }
        }
        return spoilt(all.toString());
    }

    /** Half of the texts stay right; others lose, change, get or double a few bytes. */
    private String spoilt(String text) {
        StringBuilder all = new StringBuilder(text);
        String bytes = "  ;;()+<>019amnotwy\u00e9-";
        int harm = chance.nextBoolean() ? 0 : 1 + upTo(1);
        for (int k = 0; k < harm; k++) {
            int at = upTo(all.length());
            char put = bytes.charAt(upTo(bytes.length() - 1));
            int kind = upTo(3);
            if (kind == 0 || at == all.length()) {
                all.insert(at, put);
            } else if (kind == 1) {
                all.deleteCharAt(at);
            } else if (kind == 2) {
                all.setCharAt(at, put);
            } else {
                all.setLength(at);
            }
        }
        if (all.length() > 400) {
            all.setLength(400);
        }
        return all.toString();
    }

    private int way() {
        int ways = model.count(0);
        return upTo(19) == 0 ? upTo(14) - 1 : ways == 0 ? 0 : upTo(ways - 1);
    }

    private int lead() {
        int kind = upTo(9);
        return kind == 0 ? -1 : kind == 1 ? Integer.MAX_VALUE : upTo(width * width);
    }

    private int set() {
        return upTo(4) == 0 ? chance.nextInt() : upTo(63);
    }

    private boolean call() {
        int kind = upTo(36);
        if (kind < 3 && upTo(3) > 0 || kind > 33 && upTo(3) > 0) {
            kind = 27 + upTo(4);
        }
        if (kind < 5) {
            return textCall(kind);
        }
        if (kind < 18) {
            return walkCall(kind, way(), way());
        }
        if (kind < 27) {
            return setOrMarkCall(kind, way(), set());
        }
        return strollCall(kind);
    }

    private boolean textCall(int kind) {
        switch (kind) {
            case 0:
            case 1:
                return told(parkText()) & same("park", park::park, model::park)
                        & same("fault", park::fault, model::fault);
            case 2:
                return told(lawText()) & same("law", park::law, model::law)
                        & same("fault", park::fault, model::fault);
            case 3: {
                int what = upTo(7) - 1;
                return same("count " + what, () -> park.count(what), () -> model.count(what));
            }
            default: {
                StringBuilder steps = new StringBuilder();
                int many = upTo(12);
                for (int k = 0; k < many; k++) {
                    steps.append(upTo(59) == 0 ? "4" : "" + (1 + upTo(2)));
                }
                int way = way();
                int other = way();
                int lead = lead();
                return told(steps.toString()) & same("judge " + way + " " + other + " " + lead,
                        () -> park.judge(way, other, lead), () -> model.judge(way, other, lead));
            }
        }
    }

    private boolean walkCall(int kind, int way, int other) {
        String both = " " + way + " " + other;
        int m = upTo(mostCorners) - upTo(1);
        int d = upTo(mostCorners);
        boolean flag = chance.nextBoolean();
        switch (kind) {
            case 5:
                return same("corner" + both + flag, () -> park.corner(way, m, flag), () -> model.corner(way, m, flag));
            case 6:
                return same("corners" + both, () -> park.corners(way), () -> model.corners(way));
            case 7:
                return same("far" + both + m + d, () -> park.far(way, m, other, d), () -> model.far(way, m, other, d));
            case 8:
                return same("shut" + both + " " + m + " " + d, () -> bit(park.shut(way, m, other, d)),
                        () -> bit(model.shut(way, m, other, d)));
            case 9:
                return same("least" + both, () -> park.least(way, other), () -> model.least(way, other));
            case 10: {
                boolean right = true;
                for (int k = -2; k < 14; k++) {
                    int step = k;
                    right &= same("first" + both + " " + k, () -> park.first(way, other, step),
                            () -> model.first(way, other, step));
                }
                return right;
            }
            case 11:
                return same("bars" + both, () -> park.bars(way, other), () -> model.bars(way, other));
            case 12: {
                int n = upTo(4);
                return same("parts" + both + " " + n, () -> park.parts(way, other, n), () -> model.parts(way, other, n));
            }
            case 13:
                return same("back" + both, () -> park.back(way, other), () -> model.back(way, other));
            case 14:
                return same("ring" + both + flag, () -> park.ring(way, other, flag), () -> model.ring(way, other, flag));
            case 15: {
                int third = way();
                return same("dogs" + both + " " + third, () -> park.dogs(way, other, third),
                        () -> model.dogs(way, other, third));
            }
            case 16: {
                int third = way();
                return same("three" + both + " " + third, () -> park.three(way, other, third),
                        () -> model.three(way, other, third));
            }
            default:
                return same("drag" + both, () -> park.drag(way, other), () -> model.drag(way, other));
        }
    }

    private boolean setOrMarkCall(int kind, int way, int set) {
        String both = " " + way + " " + set;
        boolean flag = chance.nextBoolean();
        switch (kind) {
            case 18:
                return same("nearest" + both, () -> park.nearest(way, set), () -> model.nearest(way, set));
            case 19:
                return same("middle" + both, () -> park.middle(set), () -> model.middle(set));
            case 20: {
                int lead = lead();
                return same("fewer " + way + " " + lead, () -> park.fewer(way, lead), () -> model.fewer(way, lead));
            }
            case 21:
                return same("own" + both, () -> park.own(set), () -> model.own(set));
            case 22:
                return same("forged" + both, () -> bit(park.forged(way, set)), () -> bit(model.forged(way, set)));
            case 23: {
                int minute = upTo(19) == 0 ? 1000 : upTo(5);
                int x = point();
                int y = point();
                return same("mark " + flag + " " + minute + " " + x + " " + y,
                        () -> park.mark(flag, minute, x, y), () -> model.mark(flag, minute, x, y));
            }
            case 24:
                return same("unmark", park::unmark, model::unmark);
            case 25:
                return same("needed", park::needed, model::needed);
            default: {
                int length = upTo(width) - 1;
                int pace = upTo(99) == 0 ? 100 : upTo(3);
                return same("fits " + length + " " + pace + " " + flag, () -> park.fits(length, pace, flag),
                        () -> model.fits(length, pace, flag));
            }
        }
    }

    private boolean strollCall(int kind) {
        switch (kind) {
            case 27: {
                int way = way();
                int other = way();
                int lead = Math.max(-1, lead() * 2);
                return same("begin " + way + " " + other + " " + lead, () -> bit(park.begin(way, other, lead)),
                        () -> bit(model.begin(way, other, lead)));
            }
            case 28:
            case 29: {
                int step = upTo(29) == 0 ? 4 : 1 + upTo(2);
                return same("step " + step, () -> park.step(step), () -> model.step(step)) & wholeStroll();
            }
            case 30:
                return same("undo", park::undo, model::undo) & wholeStroll();
            case 31: {
                int steps = upTo(19) == 0 ? upTo(70) : 1 + upTo(2);
                return same("live " + steps, () -> park.live(steps), () -> model.live(steps)) & wholeStroll();
            }
            case 32:
                return wholeStroll();
            case 33: {
                int seed = chance.nextInt();
                return same("seed " + seed, () -> park.seed(seed), () -> model.seed(seed));
            }
            case 34:
                return same("image", () -> kept(park::image), () -> kept(model::image));
            case 35:
                return same("again", () -> bit(park.again()), () -> bit(model.again())) & wholeStroll();
            default:
                return same("fault", park::fault, model::fault);
        }
    }

    private static long kept(Runnable image) {
        image.run();
        return 0;
    }

    private boolean wholeStroll() {
        boolean right = true;
        for (int k = -1; k <= 7; k++) {
            int what = k;
            right &= same("on " + what, () -> park.on(what), () -> model.on(what));
        }
        return right;
    }
}
