import java.util.function.ToLongFunction;

/**
 * "A call that throws changes nothing but the TAPE, where it is used up": every call that can throw, once
 * for each of its exceptions, in a park where there is something of all.
 */
public final class EdgesOfRefusalsTest {
    private static final String SENTENCE = "a call that throws changes nothing but the TAPE, where it is used up";
    private static final String INDEX = "throws.IndexOutOfBoundsException";
    private static final String ARGUMENT = "throws.IllegalArgumentException";
    private static final String UNSUPPORTED = "throws.UnsupportedOperationException";
    private static final String ELEMENT = "throws.NoSuchElementException";

    public static void main(String[] args) {
        texts();
        corners();
        walks();
        sets();
        marks();
        strolls();
        Edge.of(1, SENTENCE);
        Checks.finish();
    }

    /** A park with ways, a wall, a law, marks, a walk with steps, a seed, a fault and an image. */
    private static LeadPark full() {
        LeadPark x = Texts.parkOf("way 0 0 10 0 20 0;way 0 3 10 4 20 3;wall 500 500 501 501");
        Texts.law(x, "bar if man > 1 and dog < 1");
        for (int k = 0; k < 20; k++) {
            x.mark(k % 2 == 0, k / 2, k, 0);
        }
        x.begin(0, 1, 400);
        x.step(1);
        x.image();
        x.step(3);
        x.seed(4711);
        Texts.wrongLaw(x, "bar 5", 4);
        return x;
    }

    private static LeadPark fullOfTexts() {
        LeadPark x = full();
        while (x.count(2) < 16) {
            Texts.park(x, "");
        }
        x.begin(0, 1, 400);
        x.step(1);
        x.step(3);
        Texts.wrongLaw(x, "bar 5", 4);
        return x;
    }

    /** All that can be seen of a park, but for the TAPE and the fault. */
    private static String seen(LeadPark x) {
        StringBuilder all = new StringBuilder();
        for (int what = 0; what <= 5; what++) {
            all.append(x.count(what)).append(' ');
        }
        for (int what = 0; what <= 6; what++) {
            all.append(x.on(what)).append(' ');
        }
        for (int way = 0; way < x.count(0); way++) {
            for (int corner = 0; corner < x.corners(way); corner++) {
                all.append(x.corner(way, corner, false)).append(',').append(x.corner(way, corner, true)).append(' ');
            }
        }
        all.append(x.shut(0, 2, 1, 0)).append(x.shut(0, 0, 1, 0)).append(x.least(0, 1)).append(' ');
        all.append(x.needed()).append(' ').append(x.fits(0, 0, false)).append(' ').append(x.fits(1, 1, true));
        int seed = x.seed(0);
        x.seed(seed);
        return all.append(' ').append(seed).toString();
    }

    /** What comes to light by going back: the steps that are remembered, and the image. */
    private static String history(LeadPark x) {
        StringBuilder all = new StringBuilder();
        for (int k = 0; k < 3; k++) {
            all.append(x.undo()).append(' ').append(x.on(3)).append(' ');
        }
        all.append(x.again()).append(' ').append(x.on(2)).append(' ').append(x.seed(1));
        return all.toString();
    }

    private static void refused(int promise, String what, String due, ToLongFunction<LeadPark> call) {
        refused(promise, what, due, "12", false, full(), full(), call);
    }

    private static void refused(int promise, String what, String due, String tape, boolean usesUp, LeadPark x,
            LeadPark same, ToLongFunction<LeadPark> call) {
        Edge.of(promise, SENTENCE);
        String before = seen(x);
        Texts.tape(x, tape);
        Checks.text(what, due, Checks.outcome(() -> call.applyAsLong(x)));
        int left = usesUp ? 0 : tape.length();
        Checks.isFalse(what + ": no byte more", x.end(left + 1));
        Checks.isTrue(what + ": no byte less", x.end(left));
        Checks.text(what + ": all is as it was", before, seen(x));
        if (!usesUp) {
            Checks.equal(what + ": the fault is as it was", 4, x.fault());
            Checks.equal(what + ": the bytes are as they were", LeadPark.NONE, x.judge(0, 1, 400));
        }
        Checks.text(what + ": one can go back as far", history(same), history(x));
    }

    private static void usedUp(int promise, String what, String due, String tape, ToLongFunction<LeadPark> call) {
        refused(promise, what, due, tape, true, full(), full(), call);
    }

    private static void texts() {
        usedUp(4, "a wrong text", ARGUMENT, "way 1 1;more 0 5 5;wall 1 1 1 1;x", LeadPark::park);
        usedUp(4, "one that is too short", ARGUMENT, "more 0 5 5 6", LeadPark::park);
        refused(4, "a 17th", UNSUPPORTED, "way 1 1;more 0 5 5;wall 1 1 1 1", true, fullOfTexts(), fullOfTexts(),
                LeadPark::park);
        refused(4, "a 17th that is wrong", ARGUMENT, "way 1 1;x", true, fullOfTexts(), fullOfTexts(), LeadPark::park);
        usedUp(5, "a wrong text", ARGUMENT, "bar;bar;x", LeadPark::law);
        usedUp(5, "one that is too short", ARGUMENT, "bar if", LeadPark::law);
        usedUp(14, "wrong steps", ARGUMENT, "124", x -> x.judge(0, 1, 400));
        usedUp(14, "a lead below 0", ARGUMENT, "12", x -> x.judge(0, 1, -1));
        usedUp(14, "no way", INDEX, "12", x -> x.judge(2, 1, 400));
        usedUp(14, "no other", INDEX, "x", x -> x.judge(0, -1, 400));
    }

    private static void corners() {
        refused(7, "no way", INDEX, x -> x.corner(2, 0, true));
        refused(7, "no corner", INDEX, x -> x.corner(0, 3, true));
        refused(8, "no way", INDEX, x -> x.corners(-1));
        refused(9, "no way", INDEX, x -> x.far(2, 0, 0, 0));
        refused(9, "no corner", INDEX, x -> x.far(0, 0, 0, 3));
        refused(10, "no way", INDEX, x -> x.shut(0, 0, 2, 0) ? 1 : 0);
        refused(10, "no corner", INDEX, x -> x.shut(0, -1, 0, 0) ? 1 : 0);
    }

    private static void walks() {
        refused(11, "no way", INDEX, x -> x.least(2, 0));
        refused(12, "no way", INDEX, x -> x.first(0, 2, 0));
        refused(12, "no step", ARGUMENT, x -> x.first(0, 1, -2));
        refused(13, "no way", INDEX, x -> x.bars(0, 2));
        refused(15, "no way", INDEX, x -> x.parts(0, 2, 1));
        refused(15, "no parts", ARGUMENT, x -> x.parts(0, 1, 9));
        refused(16, "no way", INDEX, x -> x.back(-1, 0));
        refused(17, "no way", INDEX, x -> x.ring(0, 2, true));
        refused(18, "no way", INDEX, x -> x.dogs(0, 1, 2));
        refused(19, "no way", INDEX, x -> x.three(0, 2, 1));
        refused(20, "no way", INDEX, x -> x.drag(2, 2));
    }

    private static void sets() {
        refused(21, "no way", INDEX, x -> x.nearest(2, -1));
        refused(23, "no way", INDEX, x -> x.fewer(2, 0));
        refused(23, "no lead", ARGUMENT, x -> x.fewer(0, -1));
        refused(25, "no way", INDEX, x -> x.forged(2, -1) ? 1 : 0);
    }

    private static void marks() {
        refused(26, "a 21st", UNSUPPORTED, x -> x.mark(true, 1, 1, 1));
        refused(26, "no minute", ARGUMENT, x -> x.mark(true, 1000, 1, 1));
        refused(26, "no X", ARGUMENT, x -> x.mark(false, 1, -1, 1));
        refused(26, "no Y", ARGUMENT, x -> x.mark(false, 1, 1, 1000));
        refused(29, "no length", ARGUMENT, x -> x.fits(1000, 0, true));
        refused(29, "no pace", ARGUMENT, x -> x.fits(0, 100, false));
    }

    private static void strolls() {
        refused(30, "no way", INDEX, x -> x.begin(2, 0, 400) ? 1 : 0);
        refused(30, "no other", INDEX, x -> x.begin(0, 2, 400) ? 1 : 0);
        refused(30, "no lead", ARGUMENT, x -> x.begin(0, 1, -1) ? 1 : 0);
        refused(31, "no step", ARGUMENT, x -> x.step(0));
        refused(31, "no step of 4", ARGUMENT, x -> x.step(4));
        refused(33, "none", ARGUMENT, x -> x.live(0));
        refused(33, "too many", ARGUMENT, x -> x.live(61));
        refused(34, "no such thing", ELEMENT, x -> x.on(7));
        refused(34, "nor below", ELEMENT, x -> x.on(-1));
    }
}
