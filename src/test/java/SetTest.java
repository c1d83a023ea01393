/** Promises 21 to 25: sets of WAYS, and FEWER CORNERS. */
public final class SetTest {
    private static final int NONE = LeadPark.NONE;

    public static void main(String[] args) {
        promise21();
        promise22();
        promise23();
        promise24();
        promise25();
        Checks.finish();
    }

    private static void promise21() {
        LeadPark x = Texts.parkOf("way 0 0;way 5 0;way 0 5;way 0 3");
        Checks.equal("the nearest", 3, x.nearest(0, 15));
        Checks.equal("of several the least", 1, x.nearest(0, 7));
        Checks.equal("bits of no way", 2, x.nearest(0, ~0 << 2 & ~8));
        Checks.equal("all bits", 3, x.nearest(0, -1));
        Checks.equal("itself not", NONE, x.nearest(0, 1));
        Checks.equal("no set", NONE, x.nearest(0, 0));
        Checks.equal("bits of no way alone", NONE, x.nearest(0, ~15));
        Texts.law(x, "bar if far < 10");
        Checks.equal("without a least it is none", 1, x.nearest(0, 15));
        Texts.law(x, "bar if mx < 1");
        Checks.equal("the way is the man's", NONE, x.nearest(0, 15));
        Checks.equal("another man", 0, x.nearest(1, 15));
        Checks.outOfBounds("way", () -> x.nearest(4, 15));
        Checks.outOfBounds("below", () -> x.nearest(-1, 15));
    }

    private static void promise22() {
        LeadPark x = Texts.parkOf("way 0 0;way 5 0;way 10 0;way 6 0");
        Checks.equal("the middle", 1, x.middle(15));
        Checks.equal("without it", 3, x.middle(13));
        Checks.equal("of several the least", 0, x.middle(3));
        Checks.equal("one", 2, x.middle(4));
        Checks.equal("no set", NONE, x.middle(0));
        Checks.equal("bits of no way", NONE, x.middle(~15));
        Checks.equal("all bits", 1, x.middle(-1));
        Texts.law(x, "bar if mx > 4 and mx < 6");
        Checks.equal("as the man's it does not count", 3, x.middle(15));
        Texts.law(x, "bar if dx > 4 and dx < 6");
        Checks.equal("as the dog's it rules the others out", 1, x.middle(15));
        Texts.law(x, "bar");
        Checks.equal("none", NONE, x.middle(15));
        Checks.equal("but one without others", 0, x.middle(1));
        Checks.equal("of no ways", NONE, new LeadPark().middle(-1));
    }

    private static void promise23() {
        LeadPark x = Texts.parkOf("way 0 0 1 0 2 0 30 0 31 0 32 0;way 5 5;way 5 5 6 6;way 0 0 9 9 0 0");
        Checks.equal("all", 63, x.fewer(0, 0));
        Checks.equal("four, the least second one", 43, x.fewer(0, 1));
        Checks.equal("the ends", 33, x.fewer(0, 4));
        Checks.equal("the greatest lead", 33, x.fewer(0, Integer.MAX_VALUE));
        Checks.equal("one corner", 1, x.fewer(1, 0));
        Checks.equal("two corners", 3, x.fewer(2, Integer.MAX_VALUE));
        Checks.equal("a corner between", 7, x.fewer(3, 161));
        Checks.equal("none between", 5, x.fewer(3, 162));
        Texts.law(x, "bar");
        Texts.park(x, "wall 0 0 999 0");
        Checks.equal("shut is not looked at", 43, x.fewer(0, 1));
        Checks.illegal("below 0", () -> x.fewer(0, -1));
        Checks.outOfBounds("told first", () -> x.fewer(4, -1));
        LeadPark y = Texts.parkOf("way " + Texts.repeated("5 5", " ", 30) + ";way "
                + Texts.repeated("0 0 9 9", " ", 15));
        Checks.equal("30 of one point", 1 | 1 << 29, y.fewer(0, 0));
        Checks.equal("30 of two points", (1 << 30) - 1, y.fewer(1, 161));
        Checks.equal("30 by a long lead", 1 | 1 << 29, y.fewer(1, 162));
    }

    private static void promise24() {
        LeadPark x = Texts.parkOf("way 0 0;way 5 0;way 10 0");
        Checks.equal("the greatest", 100, x.own(7));
        Checks.equal("of two", 25, x.own(6));
        Checks.equal("of one", 0, x.own(4));
        Checks.equal("of none", 0, x.own(0));
        Checks.equal("bits of no way", 0, x.own(~3));
        Checks.equal("all bits", 100, x.own(-1));
        Texts.law(x, "bar if mx > dx");
        Checks.equal("the lesser number is the man's", 100, x.own(7));
        Texts.law(x, "bar if far > 30");
        Checks.equal("none for some two", NONE, x.own(7));
        Checks.equal("but for these", 25, x.own(3));
        Texts.law(x, "bar");
        Checks.equal("0 without two", 0, x.own(1));
    }

    private static void promise25() {
        LeadPark x = Texts.parkOf("way 0 0;way 5 0;way 10 0;way 16 0");
        Checks.isTrue("farther than any two", x.forged(3, 3));
        Checks.isFalse("as far", x.forged(2, 3));
        Checks.isTrue("no nearest", x.forged(2, 4));
        Checks.isTrue("no set", x.forged(2, 0));
        Checks.isTrue("one way is not as far as itself", x.forged(2, 1));
        Checks.isFalse("itself in the set", x.forged(3, 15));
        Texts.law(x, "bar if far > 30 and far < 101");
        Checks.isTrue("no own", x.forged(1, 7));
        Texts.law(x, "bar if mx > 15");
        Checks.isTrue("no nearest by the law", x.forged(3, 7));
        Checks.outOfBounds("way", () -> x.forged(4, 3) ? 1 : 0);
        Checks.outOfBounds("below", () -> x.forged(-1, 3) ? 1 : 0);
    }
}
