import java.util.Random;
import java.util.function.LongSupplier;

/** Long ways against the Model: up to 30 corners, walls and a law. */
public final class LargeTest {
    private static final String[] LAWS = {
        "", "bar if far > 700", "bar if man > dog + 4", "bar if man > 5 and man < 9 and dog > 5 and dog < 9",
        "bar if not (mx > dx or my > dy) and far > 90; bar if man + dog > 20 and man + dog < 22 and far > 99"};

    private final Random chance;
    private final LeadPark park = new LeadPark();
    private final Model model = new Model();

    private LargeTest(int seed) {
        chance = new Random(seed);
    }

    public static void main(String[] args) {
        int runs = args.length > 0 ? Integer.parseInt(args[0]) : 10;
        for (int run = 0; run < runs; run++) {
            new LargeTest(run).run("run " + run + ": ");
        }
        Checks.finish();
    }

    private void same(String what, LongSupplier got, LongSupplier due) {
        Checks.text(what, Checks.outcome(due), Checks.outcome(got));
    }

    private void tell(String text, LongSupplier one, LongSupplier other) {
        byte[] bytes = text.getBytes(java.nio.charset.StandardCharsets.ISO_8859_1);
        for (int from = 0; from < bytes.length; from += 20) {
            int[] words = new int[5];
            for (int k = 0; k < 5; k++) {
                words[k] = Texts.word(bytes, from + 4 * k);
            }
            park.feed(words[0], words[1], words[2], words[3], words[4]);
            model.feed(words);
        }
        park.end(bytes.length);
        model.end(bytes.length);
        same(text, one, other);
    }

    /** A way that strays about, so that two of them are near one another for some time. */
    private String way(int corners) {
        StringBuilder all = new StringBuilder("way");
        int x = chance.nextInt(10);
        int y = chance.nextInt(10);
        for (int k = 0; k < corners; k++) {
            all.append(' ').append(x).append(' ').append(y);
            x = Math.max(0, x + chance.nextInt(8) - 2);
            y = Math.max(0, y + chance.nextInt(9) - 4);
        }
        return all.toString();
    }

    private void run(String name) {
        for (int k = 0; k < 3; k++) {
            int corners = chance.nextInt(3) == 0 ? 30 : 12 + chance.nextInt(19);
            tell(way(corners), park::park, model::park);
        }
        tell("wall 20 0 20 3;wall 40 9 41 12;wall 7 30 30 30", park::park, model::park);
        tell(LAWS[chance.nextInt(LAWS.length)], park::law, model::law);
        for (int man = 0; man < 3; man++) {
            pair(name, man, (man + 1) % 3);
        }
        same(name + "dogs", () -> park.dogs(0, 1, 2), () -> model.dogs(0, 1, 2));
        same(name + "three", () -> park.three(0, 1, 2), () -> model.three(0, 1, 2));
        same(name + "middle", () -> park.middle(7), () -> model.middle(7));
        same(name + "own", () -> park.own(7), () -> model.own(7));
        same(name + "nearest", () -> park.nearest(1, 7), () -> model.nearest(1, 7));
    }

    private void pair(String name, int man, int dog) {
        String both = name + man + " with " + dog + ": ";
        same(both + "least", () -> park.least(man, dog), () -> model.least(man, dog));
        same(both + "bars", () -> park.bars(man, dog), () -> model.bars(man, dog));
        same(both + "back", () -> park.back(man, dog), () -> model.back(man, dog));
        same(both + "ring", () -> park.ring(man, dog, false), () -> model.ring(man, dog, false));
        same(both + "ring from", () -> park.ring(man, dog, true), () -> model.ring(man, dog, true));
        same(both + "drag", () -> park.drag(man, dog), () -> model.drag(man, dog));
        for (int k = -1; k < 60; k += 7) {
            int step = k;
            same(both + "first " + k, () -> park.first(man, dog, step), () -> model.first(man, dog, step));
        }
        int n = 1 + chance.nextInt(8);
        same(both + "parts " + n, () -> park.parts(man, dog, n), () -> model.parts(man, dog, n));
    }
}
