/** Promises 30 to 38: the WALK ON THE WAY, DRAWS, THE IMAGE and what is counted. */
public final class StrollTest {
    private static final int NONE = LeadPark.NONE;
    private static final String LONG_WAY = "way " + Texts.repeated("1 1", " ", 30);

    public static void main(String[] args) {
        promise30();
        promise31();
        promise32();
        promise33();
        promise34();
        promise35();
        promise36();
        promise37();
        promise38();
        Checks.finish();
    }

    private static LeadPark lanes() {
        return Texts.parkOf("way 0 0 10 0 20 0;way 0 3 10 4 20 3");
    }

    private static void promise30() {
        LeadPark x = lanes();
        Checks.isFalse("too far", x.begin(0, 1, 8));
        Checks.equal("there is none", NONE, x.on(0));
        Checks.isTrue("begun", x.begin(0, 1, 9));
        Checks.equal("lead", 9, x.on(6));
        Checks.isTrue("in its place", x.begin(0, 1, Integer.MAX_VALUE));
        Checks.equal("one step", 109, x.step(1));
        Checks.isFalse("cannot be begun", x.begin(0, 1, 8));
        Checks.equal("then the one there is stays", 1, x.on(0));
        Checks.isTrue("begun anew", x.begin(0, 1, 500));
        Checks.equal("from the begin", 0, x.on(0));
        Checks.equal("no steps", 0, x.on(2));
        Checks.equal("none to take back", 0, x.on(5));
        Checks.illegal("below 0", () -> x.begin(0, 1, -1) ? 1 : 0);
        Checks.outOfBounds("told first", () -> x.begin(2, 1, -1) ? 1 : 0);
        Checks.outOfBounds("other", () -> x.begin(0, 2, 1) ? 1 : 0);
        Checks.equal("a throw changes nothing", 500, x.on(6));
        Texts.law(x, "bar if man + dog < 1");
        Checks.isFalse("shut", x.begin(0, 1, Integer.MAX_VALUE));
    }

    private static void promise31() {
        LeadPark x = lanes();
        Checks.equal("without a walk", NONE, x.step(1));
        x.begin(0, 1, 109);
        Checks.equal("the dog", 116 > 109 ? NONE : 116, x.step(2));
        Checks.equal("the man", 109, x.step(1));
        Checks.equal("the man again is too far", NONE, x.step(1));
        Checks.equal("nothing happened", 1, x.on(2));
        Checks.equal("the dog now", 16, x.step(2));
        Checks.equal("both", 9, x.step(3));
        for (int step = 1; step <= 3; step++) {
            Checks.equal("at the end", NONE, x.step(step));
        }
        Checks.equal("M", 2, x.on(0));
        Checks.equal("D", 2, x.on(1));
        Checks.illegal("0", () -> x.step(0));
        Checks.illegal("4", () -> x.step(4));
        Checks.illegal("-1", () -> x.step(-1));
        Texts.law(x, "bar if man > 0");
        x.begin(0, 1, Integer.MAX_VALUE);
        Checks.equal("shut by the greatest lead", NONE, x.step(1));
        Checks.equal("not shut", 116, x.step(2));
    }

    private static void promise32() {
        LeadPark x = lanes();
        Checks.equal("without a walk", NONE, x.undo());
        x.begin(0, 1, 2000);
        Checks.equal("without steps", NONE, x.undo());
        x.step(2);
        x.step(2);
        x.step(1);
        Checks.equal("greatest", 409, x.on(3));
        Checks.equal("man", 1, x.undo());
        Checks.equal("greatest is that of the dog's", 409, x.on(3));
        Checks.equal("dog", 2, x.undo());
        Checks.equal("greatest ahead of it", 116, x.on(3));
        Checks.equal("one step", 1, x.on(2));
        Checks.equal("one place", 1, x.on(1));
        LeadPark y = Texts.parkOf(LONG_WAY);
        y.begin(0, 0, 0);
        for (int k = 0; k < 29; k++) {
            y.step(1);
            y.step(2);
        }
        Checks.equal("58 gone", 58, y.on(2));
        Checks.equal("40 remembered", 40, y.on(5));
        for (int k = 0; k < 40; k++) {
            Checks.equal("step " + k, k % 2 == 0 ? 2 : 1, y.undo());
        }
        Checks.equal("no more", NONE, y.undo());
        Checks.equal("18 stay", 18, y.on(2));
        y.step(3);
        Checks.equal("one again", 1, y.on(5));
        Checks.equal("and back", 3, y.undo());
        Checks.equal("none", NONE, y.undo());
    }

    private static int drawn(int seed) {
        return seed >> 16 & 32767;
    }

    private static void promise33() {
        LeadPark x = Texts.parkOf(LONG_WAY);
        Checks.equal("without a walk", 0, x.live(60));
        Checks.equal("no draw then", 1, x.seed(77));
        x.begin(0, 0, 0);
        Checks.equal("ten", 10, x.live(10));
        int seed = 77;
        int man = 0;
        int dog = 0;
        for (int k = 0; k < 10; k++) {
            seed = seed * 1103515245 + 12345;
            int step = 1 + drawn(seed) % 3;
            man += step & 1;
            dog += step >> 1;
        }
        Checks.equal("M", man, x.on(0));
        Checks.equal("D", dog, x.on(1));
        Checks.equal("seed", seed, x.seed(-5));
        int gone = x.live(60);
        Checks.equal("to the ends", 1, x.on(4));
        Checks.equal("steps", 10 + gone, x.on(2));
        Checks.equal("no more", 0, x.live(60));
        Checks.illegal("0", () -> x.live(0));
        Checks.illegal("61", () -> x.live(61));
        LeadPark y = Texts.parkOf("way 0 0 1 0 2 0;way 0 0 1 0 2 0");
        Texts.law(y, "bar if man > dog");
        y.begin(0, 1, Integer.MAX_VALUE);
        y.seed(3);
        Checks.equal("one of 2 and 3", 1, y.live(1));
        int next = 3 * 1103515245 + 12345;
        Checks.equal("in this order", drawn(next) % 2, y.on(0));
        Checks.equal("it can be taken back", 2 + drawn(next) % 2, y.undo());
        Checks.equal("the seed not", next, y.seed(0));
    }

    private static void promise34() {
        LeadPark x = lanes();
        for (int what = 0; what <= 6; what++) {
            Checks.equal("without a walk " + what, NONE, x.on(what));
        }
        Checks.noElement("7", () -> x.on(7));
        Checks.noElement("-1", () -> x.on(-1));
        x.begin(0, 1, 500);
        x.step(1);
        x.step(3);
        int[] due = {2, 1, 2, 116, 0, 2, 500};
        for (int what = 0; what <= 6; what++) {
            Checks.equal("on " + what, due[what], x.on(what));
        }
        x.step(2);
        Checks.equal("both are at their ends", 1, x.on(4));
        Checks.equal("the greatest stays", 116, x.on(3));
        Checks.noElement("7 on a walk", () -> x.on(7));
        Texts.wrongPark(x, "way", 3);
        Checks.equal("a wrong text does not end it", 2, x.on(0));
        Texts.park(x, "");
        Checks.equal("a text of the park ends it", NONE, x.on(0));
        Checks.equal("no step then", NONE, x.step(1));
        Checks.equal("no undo then", NONE, x.undo());
        x.begin(0, 1, 500);
        Texts.wrongLaw(x, "x", 0);
        Checks.equal("nor does a wrong law", 0, x.on(0));
        Texts.law(x, "");
        Checks.equal("a law ends it", NONE, x.on(0));
    }

    private static void promise35() {
        LeadPark x = new LeadPark();
        Checks.equal("1 at first", 1, x.seed(5));
        Checks.equal("5", 5, x.seed(Integer.MIN_VALUE));
        Checks.equal("any", Integer.MIN_VALUE, x.seed(0));
    }

    private static void promise36() {
        LeadPark x = lanes();
        x.begin(0, 1, 500);
        x.step(1);
        x.image();
        Checks.equal("to keep it changes nothing", 1, x.on(5));
        x.step(2);
        x.image();
        Checks.isTrue("the latest", x.again());
        Checks.equal("two steps", 2, x.on(2));
        Checks.equal("nothing to take back", NONE, x.undo());
    }

    private static void promise37() {
        LeadPark x = lanes();
        Checks.isFalse("none", x.again());
        Texts.law(x, "bar if man > 1");
        x.mark(true, 1, 2, 3);
        x.seed(9);
        x.begin(0, 1, 500);
        x.step(2);
        x.image();
        Texts.park(x, "way 1 1;more 0 5 5;wall 0 0 0 0");
        Texts.law(x, "");
        x.unmark();
        x.seed(10);
        Texts.wrongPark(x, "  x", 2);
        x.feed(0x33333333, 0, 0, 0, 0);
        Checks.isTrue("again", x.again());
        Checks.equal("fault stays", 2, x.fault());
        Checks.isTrue("the tape stays", x.end(20));
        x.end(0);
        int[] due = {2, 0, 1, 1, 1, 6};
        for (int what = 0; what < due.length; what++) {
            Checks.equal("count " + what, due[what], x.count(what));
        }
        Checks.equal("seed", 9, x.seed(11));
        Checks.isTrue("law", x.shut(0, 2, 1, 0));
        Checks.isFalse("no wall", x.shut(0, 0, 0, 0));
        int[] walk = {0, 1, 1, 116, 0, 0, 500};
        for (int what = 0; what < walk.length; what++) {
            Checks.equal("on " + what, walk[what], x.on(what));
        }
        Checks.equal("nothing to take back", NONE, x.undo());
        Checks.equal("it goes on", 16, x.step(1));
        Checks.equal("and back", 1, x.undo());
        Checks.equal("to the greatest ahead", 116, x.on(3));
        Checks.isTrue("the image itself stays", x.again());
        Checks.equal("seed again", 9, x.seed(11));
        LeadPark y = new LeadPark();
        y.image();
        Texts.park(y, "way 1 1");
        Texts.law(y, "bar");
        y.begin(0, 0, 0);
        Checks.isTrue("of nothing", y.again());
        Checks.equal("no way", 0, y.count(0));
        Checks.equal("no law", NONE, y.count(3));
        Checks.equal("no walk", NONE, y.on(0));
    }

    private static void promise38() {
        LeadPark x = lanes();
        Texts.park(x, "wall 1 1 1 1;wall 1 1 1 1;way 7 7");
        Texts.law(x, "bar;bar;bar if 1<2;bar");
        x.mark(true, 0, 0, 0);
        int[] due = {3, 2, 2, 4, 1, 7};
        for (int what = 0; what < due.length; what++) {
            Checks.equal("count " + what, due[what], x.count(what));
        }
        Checks.equal("6", NONE, x.count(6));
        Checks.equal("-1", NONE, x.count(-1));
        Checks.equal("far off", NONE, x.count(Integer.MIN_VALUE));
    }
}
