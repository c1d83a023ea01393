/** Boundary cases of promises 30 to 38: the WALK ON THE WAY, DRAWS, THE IMAGE, and what is counted. */
public final class EdgesOfStrollTest {
    private static final int NONE = LeadPark.NONE;
    private static final int[] NO_STEPS = {0, 4, -1, 5, Integer.MIN_VALUE, Integer.MAX_VALUE};

    public static void main(String[] args) {
        begin();
        beginRefused();
        step();
        undo();
        undoForty();
        live();
        liveDraws();
        on();
        onEnds();
        seed();
        image();
        again();
        againButFor();
        count();
        Edge.finish(30, 38);
    }

    private static LeadPark lanes() {
        return Texts.parkOf("way 0 0 10 0 20 0;way 0 3 10 4 20 3");
    }

    private static LeadPark thirty() {
        return Texts.parkOf("way " + Texts.repeated("0 0", " ", 30));
    }

    private static void told(String what, LeadPark x, int... due) {
        for (int k = 0; k < due.length; k++) {
            Checks.equal(what + ": on " + k, due[k], x.on(k));
        }
    }

    // ---- promise 30

    private static void begin() {
        Edge.of(30, "begun (if the begin is not SHUT nor more FAR)");
        LeadPark x = lanes();
        Checks.isFalse("too far by one", x.begin(0, 1, 8));
        Checks.equal("so there is none", NONE, x.on(6));
        Checks.isTrue("just as far", x.begin(0, 1, 9));
        told("begun", x, 0, 0, 0, 9, 0, 0, 9);
        Checks.isTrue("a lead of 0", x.begin(0, 0, 0));
        told("of one way", x, 0, 0, 0, 0, 0, 0, 0);
        Checks.isTrue("the longest lead", x.begin(1, 0, Integer.MAX_VALUE));
        told("the other way round", x, 0, 0, 0, 9, 0, 0, Integer.MAX_VALUE);
        Texts.law(x, "bar if man+dog < 1");
        Checks.isFalse("shut by the law", x.begin(0, 1, Integer.MAX_VALUE));
        Texts.law(x, "bar if man+dog > 0");
        Checks.isTrue("not shut itself", x.begin(0, 1, 9));
        Texts.park(x, "wall 0 1 0 2");
        Checks.isFalse("shut by a wall", x.begin(0, 1, 9));
        LeadPark far = Texts.parkOf("way 0 0;way 999 999");
        Checks.isFalse("the greatest, less one", far.begin(0, 1, 1996001));
        Checks.isTrue("the greatest", far.begin(0, 1, 1996002));
        told("one corner each: at their ends", far, 0, 0, 0, 1996002, 1, 0, 1996002);

        LeadPark last = Texts.largest();
        Checks.isTrue("the 12th way of 30 corners", last.begin(11, 11, 0));
        Checks.isTrue("all its steps", last.live(60) >= 29);
        told("to its ends", last, 29, 29, last.on(2), 0, 1, Math.min(40, last.on(2)), 0);

        Edge.of(30, "A LEAD is told as its square.");
        LeadPark square = Texts.parkOf("way 0 0;way 3 4");
        Checks.isFalse("5 is not 5 long", square.begin(0, 1, 5));
        Checks.isFalse("nor is 24", square.begin(0, 1, 24));
        Checks.isTrue("but 25 is", square.begin(0, 1, 25));

        Edge.of(30, "A WALK ON THE WAY is begun (in place of the one there is): whether it can be.");
        LeadPark y = lanes();
        y.begin(0, 1, 500);
        y.step(1);
        y.step(3);
        Checks.isTrue("anew", y.begin(1, 0, 300));
        told("anew", y, 0, 0, 0, 9, 0, 0, 300);
        Checks.equal("no step of the one before is taken back", NONE, y.undo());
        y.step(1);
        Checks.isFalse("one that cannot be", y.begin(0, 1, 8));
        told("leaves the one there is", y, 1, 0, 1, 116, 0, 1, 300);
        Checks.equal("with its step", 1, y.undo());
    }

    private static void beginRefused() {
        LeadPark x = lanes();
        Edge.of(30, "IllegalArgumentException: the LEAD is below 0");
        Checks.illegal("-1", () -> x.begin(0, 1, -1) ? 1 : 0);
        Checks.illegal("the least", () -> x.begin(0, 1, Integer.MIN_VALUE) ? 1 : 0);
        Checks.isTrue("0 is a lead", x.begin(0, 0, 0));

        Edge.of(30, "IndexOutOfBoundsException: there is no such WAY, CORNER, MARK");
        LeadPark all = Texts.parkOf(Texts.repeated("way 1 1", ";", 12));
        for (int bad : new int[] {-1, 12, 32, Integer.MIN_VALUE, Integer.MAX_VALUE}) {
            Checks.outOfBounds("way " + bad, () -> all.begin(bad, 0, 0) ? 1 : 0);
            Checks.outOfBounds("other " + bad, () -> all.begin(0, bad, 0) ? 1 : 0);
        }
        Checks.isTrue("the 12th", all.begin(11, 11, 0));
        Checks.outOfBounds("a new park", () -> new LeadPark().begin(0, 0, 0) ? 1 : 0);

        Edge.of(30, "Of several exceptions the one told first is thrown");
        Checks.outOfBounds("no way and no lead", () -> all.begin(12, 0, -1) ? 1 : 0);
        Checks.outOfBounds("no other and no lead", () -> all.begin(0, 12, -1) ? 1 : 0);
    }

    // ---- promise 31

    private static void step() {
        Edge.of(31, "A STEP of it: FAR then; NONE, and nothing happens, if it cannot be gone, or there is none.");
        LeadPark x = lanes();
        for (int step = 1; step <= 3; step++) {
            Checks.equal("there is none: " + step, NONE, x.step(step));
        }
        x.begin(0, 1, 109);
        Checks.equal("too far by some", NONE, x.step(2));
        told("nothing happened", x, 0, 0, 0, 9, 0, 0, 109);
        Checks.equal("just as far as the lead", 109, x.step(1));
        Checks.equal("too far", NONE, x.step(1));
        told("nothing happened then", x, 1, 0, 1, 109, 0, 1, 109);
        Checks.equal("the dog", 16, x.step(2));
        Checks.equal("both", 9, x.step(3));
        for (int step = 1; step <= 3; step++) {
            Checks.equal("at the ends: " + step, NONE, x.step(step));
        }
        told("nothing happened there", x, 2, 2, 3, 109, 1, 3, 109);

        Edge.of(31, "then STEP by STEP (refused likewise)");
        x.begin(0, 1, 108);
        Checks.equal("too far by one", NONE, x.step(1));
        LeadPark y = Texts.parkOf("way 0 0 0 0;way 0 0 0 0 0 0");
        y.begin(0, 1, 0);
        Checks.equal("0 is FAR, too", 0, y.step(1));
        Checks.equal("the man is at his end", NONE, y.step(1));
        Checks.equal("so both cannot go", NONE, y.step(3));
        Checks.equal("but the dog can", 0, y.step(2));
        y.begin(1, 0, 0);
        y.step(2);
        Checks.equal("the dog is at his end", NONE, y.step(2));
        Checks.equal("so both cannot go then", NONE, y.step(3));
        Checks.equal("but the man can", 0, y.step(1));
        Texts.law(y, "bar if man > 0 and dog < 1");
        y.begin(0, 1, Integer.MAX_VALUE);
        Checks.equal("shut", NONE, y.step(1));
        Checks.equal("not shut", 0, y.step(3));
        LeadPark w = Texts.parkOf("way 0 0 10 0;way 0 5;wall 5 2 5 3");
        w.begin(0, 1, Integer.MAX_VALUE);
        Checks.equal("by a wall", NONE, w.step(1));
        LeadPark one = Texts.parkOf("way 5 5");
        one.begin(0, 0, 0);
        for (int step = 1; step <= 3; step++) {
            Checks.equal("one corner each: " + step, NONE, one.step(step));
        }

        Edge.of(31, "IllegalArgumentException: it is not 1 to 3");
        for (int bad : NO_STEPS) {
            Checks.illegal("on a walk: " + bad, () -> x.step(bad));
            Checks.illegal("without one: " + bad, () -> new LeadPark().step(bad));
        }
    }

    // ---- promise 32

    private static void undo() {
        Edge.of(32, "A STEP is taken back: which; NONE.");
        LeadPark x = lanes();
        Checks.equal("without a walk", NONE, x.undo());
        x.begin(0, 1, 2000);
        Checks.equal("without a step", NONE, x.undo());
        x.step(1);
        x.step(3);
        x.step(2);
        told("three steps", x, 2, 2, 3, 116, 1, 3, 2000);
        Checks.equal("the dog's", 2, x.undo());
        told("two are left", x, 2, 1, 2, 116, 0, 2, 2000);
        Checks.equal("that of both", 3, x.undo());
        told("one is left", x, 1, 0, 1, 109, 0, 1, 2000);
        Checks.equal("another in its stead", 16, x.step(2));
        Checks.equal("which is that", 2, x.undo());
        Checks.equal("the man's", 1, x.undo());
        told("the begin", x, 0, 0, 0, 9, 0, 0, 2000);
        Checks.equal("none", NONE, x.undo());
        told("the begin stays", x, 0, 0, 0, 9, 0, 0, 2000);
        x.step(3);
        Texts.law(x, "");
        Checks.equal("a text ended the walk", NONE, x.undo());
    }

    private static void undoForty() {
        Edge.of(32, "STEPS may be taken back, up to 40 of them");
        LeadPark x = thirty();
        x.begin(0, 0, 0);
        for (int k = 1; k <= 58; k++) {
            Checks.equal("step " + k, 0, x.step(k <= 29 ? 1 : 2));
            Checks.equal("can be taken back after " + k, Math.min(k, 40), x.on(5));
        }
        told("58", x, 29, 29, 58, 0, 1, 40, 0);
        for (int k = 58; k > 18; k--) {
            Checks.equal("step " + k + " back", k <= 29 ? 1 : 2, x.undo());
        }
        told("40 are back", x, 18, 0, 18, 0, 0, 0, 0);
        Checks.equal("a 41st is not", NONE, x.undo());
        told("so it stays", x, 18, 0, 18, 0, 0, 0, 0);
        x.step(3);
        Checks.equal("but a new one can be", 1, x.on(5));
        Checks.equal("it is", 3, x.undo());
        Checks.equal("and none ahead of it", NONE, x.undo());
        LeadPark y = thirty();
        y.begin(0, 0, 0);
        for (int k = 0; k < 41; k++) {
            y.step(k < 29 ? 2 : 1);
        }
        Checks.equal("of 41", 40, y.on(5));
        y.undo();
        Checks.equal("of 40 and one back", 39, y.on(5));
        y.step(1);
        Checks.equal("and one more", 40, y.on(5));
        for (int k = 0; k < 40; k++) {
            y.undo();
        }
        Checks.equal("the first one stays", 1, y.on(2));
        Checks.equal("it cannot be taken back", NONE, y.undo());
        LeadPark z = thirty();
        z.begin(0, 0, 0);
        z.live(60);
        int gone = z.on(2);
        Checks.equal("drawn ones, too", Math.min(gone, 40), z.on(5));
        for (int k = 0; k < Math.min(gone, 40); k++) {
            Checks.isTrue("a drawn one", z.undo() >= 1);
        }
        Checks.equal("no more of them", NONE, z.undo());
    }

    // ---- promise 33

    private static int after(int seed) {
        return (int) (1103515245L * seed + 12345);
    }

    private static int draw(int seed) {
        return (int) ((seed & 0xffffffffL) / 65536 % 32768);
    }

    private static void live() {
        Edge.of(33, "IllegalArgumentException: so many are not 1 to 60");
        LeadPark x = thirty();
        for (int bad : new int[] {0, 61, -1, Integer.MIN_VALUE, Integer.MAX_VALUE}) {
            Checks.illegal("without a walk " + bad, () -> x.live(bad));
        }
        Checks.equal("1 without a walk", 0, x.live(1));
        Checks.equal("60 without a walk", 0, x.live(60));
        x.begin(0, 0, 0);
        for (int bad : new int[] {0, 61}) {
            Checks.illegal("on a walk " + bad, () -> x.live(bad));
        }
        Checks.equal("none was gone", 0, x.on(2));
        Checks.equal("nor drawn", 1, x.seed(1));
        Checks.equal("1", 1, x.live(1));
        Checks.equal("one was gone", 1, x.on(2));

        Edge.of(33, "DRAWN: how many STEPS were gone.");
        LeadPark lanes = lanes();
        lanes.begin(0, 1, 16);
        Checks.equal("of one that is asked for", 1, lanes.live(1));
        Checks.equal("of two that are left to go, one is gone", 1, lanes.live(2));
        Checks.equal("of none that is left", 0, lanes.live(1));
        lanes.undo();
        Checks.equal("of the one taken back", 1, lanes.live(60));

        Edge.of(33, "DRAWN: so many STEPS at most");
        int gone = x.live(60);
        told("to the ends", x, 29, 29, 1 + gone, 0, 1, Math.min(1 + gone, 40), 0);
        Checks.isTrue("fewer than 60", gone < 60);
        Checks.equal("no more", 0, x.live(60));
        LeadPark y = thirty();
        Texts.law(y, "bar if man < 29 and dog > 0");
        y.begin(0, 0, 0);
        y.seed(4);
        int most = y.live(60);
        Checks.isTrue("58, or 57 with both at the corner", most == 58 || most == 57);
        told("58 at most", y, 29, 29, most, 0, 1, 40, 0);

        Edge.of(33, "as long as one can");
        LeadPark z = thirty();
        Texts.law(z, "bar if man+dog > 9");
        z.begin(0, 0, 0);
        int before = z.live(60);
        Checks.isTrue("a dead end", before >= 5 && before <= 9);
        Checks.equal("is not the end", 0, z.on(4));
        int seed = z.seed(7);
        int due = 1;
        for (int k = 0; k < before; k++) {
            due = after(due);
        }
        Checks.equal("one DRAW for each STEP", due, seed);
        Checks.equal("none can be gone", 0, z.live(1));
        Checks.equal("so none is drawn", 7, z.seed(7));
        LeadPark none = thirty();
        none.seed(9);
        none.live(3);
        Checks.equal("nor without a walk", 9, none.seed(9));
        LeadPark close = lanes();
        close.begin(0, 1, 16);
        Checks.equal("the lead is looked at", 2, close.live(60));
        Checks.equal("by both alone", 16, close.on(3));
    }

    /** One STEP by a SEED, where these STEPS can be gone. */
    private static void drawn(int seed, String law, int... open) {
        LeadPark x = Texts.parkOf("way 0 0 0 0");
        Texts.law(x, law);
        x.begin(0, 0, 0);
        x.seed(seed);
        Checks.equal("a step by " + seed, 1, x.live(1));
        int next = after(seed);
        Checks.equal("the seed behind " + seed, next, x.seed(0));
        Checks.equal("which of " + open.length + " by " + seed, open[draw(next) % open.length], x.undo());
        Checks.equal("and back again", 0, x.on(0) + x.on(1));
        Checks.equal("to take it back draws nothing", 0, x.seed(0));
    }

    private static void liveDraws() {
        Edge.of(33, "each by DRAW modulo how many of 1, 2, 3 can be gone (in this order)");
        int[] seeds = {1, 0, -1, 2, 3, 12345, Integer.MIN_VALUE, Integer.MAX_VALUE, -12345, 1 << 16, 987654321};
        for (int seed : seeds) {
            drawn(seed, "", 1, 2, 3);
            drawn(seed, "bar if dog > man", 1, 3);
            drawn(seed, "bar if man > dog", 2, 3);
            drawn(seed, "bar if man+dog > 1", 1, 2);
            drawn(seed, "bar if dog > 0", 1);
            drawn(seed, "bar if man > 0", 2);
            drawn(seed, "bar if man > dog or dog > man", 3);
        }

        Edge.of(33, "SEED is 1103515245 times SEED and 12345, as an int that goes round; bits 16 to 30 (SEED 1 at first)");
        LeadPark x = thirty();
        Checks.equal("1 at first", 1, x.seed(1));
        x.begin(0, 0, 0);
        x.live(1);
        Checks.equal("1103527590", 1103527590, x.seed(1103527590));
        x.live(1);
        Checks.equal("goes round", 1103515245 * 1103527590 + 12345, x.seed(0));
        boolean below = false;
        for (int seed = 1; seed <= 40; seed++) {
            below |= after(seed) < 0;
            drawn(seed, "", 1, 2, 3);
        }
        Checks.isTrue("some are below 0", below);
        LeadPark y = thirty();
        y.begin(0, 0, 0);
        int seed = 1;
        int man = 0;
        int dog = 0;
        for (int k = 0; k < 14; k++) {
            seed = after(seed);
            int step = 1 + draw(seed) % 3;
            man += step == 2 ? 0 : 1;
            dog += step == 1 ? 0 : 1;
        }
        Checks.equal("14 at once", 14, y.live(14));
        told("14 from 1 on", y, man, dog, 14, 0, 0, 14, 0);
    }

    // ---- promise 34

    private static void on() {
        Edge.of(34, "NoSuchElementException: another what");
        LeadPark x = lanes();
        for (int bad : new int[] {-1, 7, 8, Integer.MIN_VALUE, Integer.MAX_VALUE}) {
            Checks.noElement("without a walk " + bad, () -> x.on(bad));
        }
        x.begin(0, 1, 500);
        for (int bad : new int[] {-1, 7}) {
            Checks.noElement("on a walk " + bad, () -> x.on(bad));
        }

        Edge.of(34, "NONE without one");
        told("a new park", new LeadPark(), NONE, NONE, NONE, NONE, NONE, NONE, NONE);
        told("none begun", lanes(), NONE, NONE, NONE, NONE, NONE, NONE, NONE);

        Edge.of(34, "what 0 M, 1 D, 2 STEPS gone, 3 the greatest FAR so far, 4 1 if both are at their ends");
        told("the begin counts", x, 0, 0, 0, 9, 0, 0, 500);
        x.step(2);
        told("the dog alone", x, 0, 1, 1, 116, 0, 1, 500);
        x.step(3);
        told("both: the greatest is the same", x, 1, 2, 2, 116, 0, 2, 500);
        x.step(1);
        told("at the ends", x, 2, 2, 3, 116, 1, 3, 500);
        LeadPark y = lanes();
        y.begin(0, 1, 500);
        y.step(1);
        y.step(1);
        Checks.equal("the man alone is at his end", 0, y.on(4));
        LeadPark z = lanes();
        z.begin(0, 1, 500);
        z.step(2);
        z.step(2);
        Checks.equal("the dog alone is at his end", 0, z.on(4));
        Checks.equal("the begin is not the greatest", 409, z.on(3));
        LeadPark w = Texts.parkOf("way 0 0 0 0;way 9 0 0 0");
        w.begin(0, 1, 81);
        w.step(3);
        Checks.equal("the begin is", 81, w.on(3));
        LeadPark one = Texts.parkOf("way 0 0;way 3 4");
        one.begin(0, 1, 25);
        Checks.equal("both are at their ends at once", 1, one.on(4));

        Edge.of(34, "5 STEPS that can be taken back, 6 the LEAD");
        LeadPark v = thirty();
        v.begin(0, 0, 0);
        for (int k = 0; k < 45; k++) {
            v.step(k % 2 == 0 ? 1 : 2);
        }
        told("45 gone", v, 23, 22, 45, 0, 0, 40, 0);
    }

    private static void onEnds() {
        Edge.of(34, "A text of THE PARK or THE LAW ends it: there is none then");
        LeadPark x = lanes();
        String[] parks = {"", " ", "way 1 1", "wall 500 500 501 501", "more 1 5 5"};
        for (String text : parks) {
            x.begin(0, 1, 500);
            x.step(3);
            Texts.park(x, text);
            told("park [" + text + "]", x, NONE, NONE, NONE, NONE, NONE, NONE, NONE);
            Checks.equal("no step", NONE, x.step(3));
            Checks.equal("no undo", NONE, x.undo());
            Checks.equal("none drawn", 0, x.live(5));
        }
        for (String text : new String[] {"", " ", "bar if man > 8"}) {
            x.begin(0, 1, 500);
            Texts.law(x, text);
            told("law [" + text + "]", x, NONE, NONE, NONE, NONE, NONE, NONE, NONE);
            Checks.equal("no step", NONE, x.step(3));
        }
        LeadPark y = lanes();
        for (int k = 2; k <= 16; k++) {
            Texts.park(y, "");
        }
        y.begin(0, 1, 500);
        y.step(3);
        Texts.wrongPark(y, "x", 0);
        Texts.wrongLaw(y, "x", 0);
        Checks.unsupported("a 17th", () -> Texts.park(y, "way 1 1"));
        Texts.judge(y, 0, 1, 500, "3");
        told("a text that throws does not end it, nor do steps", y, 1, 1, 1, 16, 0, 1, 500);
        Checks.equal("it goes on", 9, y.step(3));
    }

    // ---- promise 35

    private static void seed() {
        Edge.of(35, "SEED: what it was.");
        LeadPark x = new LeadPark();
        int[] seeds = {0, -1, Integer.MIN_VALUE, Integer.MAX_VALUE, 1, 65536};
        int before = 1;
        for (int seed : seeds) {
            Checks.equal("ahead of " + seed, before, x.seed(seed));
            before = seed;
        }
        Checks.equal("the last one", 65536, x.seed(65536));
        Texts.park(x, "way 1 1 1 1");
        Texts.law(x, "");
        x.begin(0, 0, 0);
        x.step(3);
        Checks.equal("neither texts nor steps change it", 65536, x.seed(1));
    }

    // ---- promises 36 and 37

    private static void image() {
        Edge.of(36, "THE IMAGE is kept.");
        LeadPark x = lanes();
        x.begin(0, 1, 500);
        x.step(1);
        Texts.tape(x, "3");
        x.image();
        told("to keep it changes nothing", x, 1, 0, 1, 109, 0, 1, 500);
        Checks.isTrue("nor the tape", x.end(1));
        x.end(0);
        Checks.equal("the step can be taken back", 1, x.undo());

        Edge.of(36, "THE IMAGE (one) of all may be kept, and gone back to");
        x.image();
        x.step(3);
        x.image();
        x.step(3);
        Checks.isTrue("the latest", x.again());
        told("one step of both", x, 1, 1, 1, 16, 0, 0, 500);
        LeadPark y = new LeadPark();
        y.image();
        Texts.park(y, "way 1 1;wall 2 2 2 2");
        Texts.law(y, "bar");
        y.mark(true, 1, 1, 1);
        y.seed(8);
        Checks.isTrue("of a new park", y.again());
        int[] due = {0, 0, 0, NONE, 0, 0};
        for (int what = 0; what < due.length; what++) {
            Checks.equal("count " + what, due[what], y.count(what));
        }
        Checks.equal("seed", 1, y.seed(1));
        Checks.outOfBounds("no way", () -> y.corners(0));
        Checks.equal("a first text", 1, Texts.park(y, "way 0 0"));
        Checks.isFalse("no law", y.shut(0, 0, 0, 0));
    }

    private static void again() {
        Edge.of(37, "true; false, and nothing happens, if none was kept");
        LeadPark x = lanes();
        x.begin(0, 1, 500);
        x.step(1);
        Checks.isFalse("none", x.again());
        told("nothing happened", x, 1, 0, 1, 109, 0, 1, 500);
        Checks.equal("the step can be taken back", 1, x.undo());

        Edge.of(37, "One goes back to THE IMAGE");
        LeadPark y = lanes();
        Texts.law(y, "bar if man > 1 and dog < 1");
        y.mark(true, 1, 2, 3);
        y.mark(false, 1, 2, 5);
        y.seed(-9);
        y.begin(0, 1, 500);
        y.step(1);
        y.step(2);
        y.image();
        Texts.park(y, "more 0 7 7;way 1 1;wall 0 0 0 0;wall 10 0 10 9");
        Texts.park(y, "way 2 2");
        Texts.law(y, "bar;bar");
        y.unmark();
        y.mark(false, 1, 999, 999);
        y.mark(true, 1, 0, 0);
        y.seed(10);
        y.begin(0, 0, 7);
        Checks.isTrue("again", y.again());
        int[] counts = {2, 0, 1, 1, 2, 6};
        for (int what = 0; what < counts.length; what++) {
            Checks.equal("count " + what, counts[what], y.count(what));
        }
        Checks.equal("marks", 4, y.needed());
        Checks.equal("seed", -9, y.seed(-9));
        Checks.isTrue("law", y.shut(0, 2, 1, 0));
        Checks.isFalse("no wall, nor the other law", y.shut(0, 1, 1, 0));
        Checks.outOfBounds("no corner", () -> y.corner(0, 3, false));
        told("the walk that was ended", y, 1, 1, 2, 109, 0, 0, 500);
        Checks.equal("it goes on", 9, y.step(3));
        told("to its end", y, 2, 2, 3, 109, 1, 1, 500);
        againToAnotherWalk();
        LeadPark z = thirty();
        for (int k = 2; k <= 15; k++) {
            Texts.park(z, "");
        }
        z.image();
        Texts.park(z, "way 3 3");
        Checks.unsupported("a 17th", () -> Texts.park(z, ""));
        z.again();
        Checks.equal("the 16th is to come again", 16, Texts.park(z, "way 4 4"));
        Checks.equal("and another one", 4, z.corner(1, 0, false));
        Texts.law(z, "");
        z.again();
        Checks.equal("the law is none again", NONE, z.count(3));
    }

    private static void againToAnotherWalk() {
        LeadPark x = Texts.parkOf("way 0 0 10 0 20 0;way 0 3 10 4 20 3;way 0 5 9 9 9 0");
        x.mark(true, 1, 2, 3);
        x.mark(false, 1, 2, 5);
        x.begin(0, 1, 500);
        x.step(1);
        x.step(2);
        x.image();
        x.unmark();
        x.unmark();
        x.mark(false, 5, 9, 9);
        x.mark(false, 6, 8, 8);
        x.begin(2, 2, 7000);
        x.step(1);
        x.step(1);
        told("another walk", x, 2, 0, 2, 106, 0, 2, 7000);
        Checks.isTrue("again", x.again());
        told("the one of the image", x, 1, 1, 2, 109, 0, 0, 500);
        Checks.equal("by its own ways", 116, x.step(1));
        Checks.equal("the marks' minutes and whose they are", 4, x.needed());
        x.begin(1, 0, 900);
        x.step(3);
        x.unmark();
        x.mark(true, 1, 2, 5);
        x.again();
        Checks.equal("and the other way round", 4, x.needed());
        Checks.equal("the walk, too", 116, x.step(1));
    }

    private static void againButFor() {
        Edge.of(37, "(but for the TAPE, fault() and THE IMAGE itself; no STEPS are remembered then)");
        LeadPark x = lanes();
        x.begin(0, 1, 500);
        x.step(1);
        x.step(3);
        Texts.tape(x, "12");
        x.image();
        x.end(0);
        Texts.wrongLaw(x, "bar 5", 4);
        Texts.tape(x, "333");
        Checks.isTrue("again", x.again());
        Checks.equal("fault", 4, x.fault());
        Checks.isFalse("no byte more on the tape", x.end(4));
        Checks.isTrue("nor fewer", x.end(3));
        Checks.equal("the bytes themselves", 2, x.judge(0, 1, 500));
        told("no steps are remembered", x, 2, 1, 2, 116, 0, 0, 500);
        Checks.equal("none to take back", NONE, x.undo());
        told("that stays", x, 2, 1, 2, 116, 0, 0, 500);
        Checks.equal("a step", 9, x.step(2));
        Checks.equal("one to take back", 1, x.on(5));
        Checks.equal("it is", 2, x.undo());
        told("to the greatest ahead of it", x, 2, 1, 2, 116, 0, 0, 500);
        Checks.equal("and no more", NONE, x.undo());
        x.step(2);
        Checks.isTrue("the image itself stays", x.again());
        told("the same again", x, 2, 1, 2, 116, 0, 0, 500);
        Texts.law(x, "");
        Checks.isTrue("a third time", x.again());
        told("the same then", x, 2, 1, 2, 116, 0, 0, 500);
        LeadPark y = thirty();
        y.begin(0, 0, 0);
        for (int k = 0; k < 58; k++) {
            y.step(k % 2 == 0 ? 1 : 2);
        }
        y.image();
        y.again();
        told("58 gone, none remembered", y, 29, 29, 58, 0, 1, 0, 0);
        Checks.equal("none back", NONE, y.undo());
        LeadPark z = lanes();
        z.image();
        z.begin(0, 1, 9);
        z.again();
        told("the image without a walk", z, NONE, NONE, NONE, NONE, NONE, NONE, NONE);
    }

    // ---- promise 38

    private static void count() {
        Edge.of(38, "0 WAYS, 1 WALLS, 2 texts of THE PARK, 3 LINES of THE LAW (NONE without one), 4 MARKS, 5 CORNERS of all.");
        LeadPark x = new LeadPark();
        int[] none = {0, 0, 0, NONE, 0, 0};
        for (int what = 0; what < none.length; what++) {
            Checks.equal("new: count " + what, none[what], x.count(what));
        }
        Texts.law(x, " ");
        Checks.equal("a law without a line", 0, x.count(3));
        String way = "way " + Texts.repeated("1 1", " ", 30);
        for (int k = 0; k < 4; k++) {
            Texts.park(x, way + ";" + way + ";" + way);
        }
        Texts.park(x, Texts.repeated("wall 9 9 9 9", ";", 8));
        for (int k = 6; k <= 16; k++) {
            Texts.park(x, "");
        }
        Texts.law(x, Texts.repeated("bar", ";", 12));
        for (int k = 0; k < 20; k++) {
            x.mark(false, 0, 0, 0);
        }
        int[] most = {12, 8, 16, 12, 20, 360};
        for (int what = 0; what < most.length; what++) {
            Checks.equal("the most: count " + what, most[what], x.count(what));
        }

        Edge.of(38, "NONE for another what");
        for (int bad : new int[] {-1, 6, 7, Integer.MIN_VALUE, Integer.MAX_VALUE}) {
            Checks.equal("what " + bad, NONE, x.count(bad));
        }
    }
}
