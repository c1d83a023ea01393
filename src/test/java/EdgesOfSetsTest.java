/** Boundary cases of promises 21 to 25: which WAY is NEAREST, the MIDDLE one, FEWER CORNERS, and whose HAND it is. */
public final class EdgesOfSetsTest {
    private static final int NONE = LeadPark.NONE;
    private static final int[] NO_WAYS = {-1, 12, 13, 31, 32, Integer.MIN_VALUE, Integer.MAX_VALUE};

    public static void main(String[] args) {
        nearest();
        middle();
        fewer();
        fewerOfSeveral();
        own();
        forged();
        largest();
        Edge.finish(21, 25);
    }

    /** Ways of one corner each, at these X. */
    private static LeadPark spots(int... xs) {
        StringBuilder all = new StringBuilder();
        for (int x : xs) {
            all.append(all.length() == 0 ? "way " : ";way ").append(x).append(" 0");
        }
        return Texts.parkOf(all.toString());
    }

    private static LeadPark twelve() {
        return spots(0, 20, 40, 60, 80, 100, 120, 140, 160, 180, 200, 201);
    }

    private static void largest() {
        LeadPark x = Texts.largest();
        Edge.of(21, "1 to 30 CORNERS each (numbered from 0 on)");
        Checks.equal("nearest to the 12th", 0, x.nearest(11, -1));
        Checks.equal("the 12th is nearest", 11, x.nearest(0, 1 << 11));
        Edge.of(22, "1 to 30 CORNERS each (numbered from 0 on)");
        Checks.equal("middle", 10, x.middle(3 << 10));
        Edge.of(23, "1 to 30 CORNERS each (numbered from 0 on)");
        Checks.equal("fewer of the 12th", 1 | 1 << 29, x.fewer(11, 0));
        Edge.of(24, "1 to 30 CORNERS each (numbered from 0 on)");
        Checks.equal("own", 0, x.own(-1));
        Edge.of(25, "1 to 30 CORNERS each (numbered from 0 on)");
        Checks.isFalse("the 12th is not forged", x.forged(11, -1));
    }

    private static void nearest() {
        Edge.of(21, "of a set of WAYS (itself not)");
        LeadPark x = spots(0, 5, 3, 9);
        Checks.equal("itself alone", NONE, x.nearest(0, 1));
        Checks.equal("itself and another", 3, x.nearest(0, 1 | 8));
        Checks.equal("itself not told", 2, x.nearest(0, 14));
        Checks.equal("the first way", 0, x.nearest(2, 1 | 8));

        Edge.of(21, "that with the least LEAST, of several the least");
        Checks.equal("of two", 0, spots(5, 10, 0).nearest(1, 5));
        Checks.equal("of two as near", 1, spots(5, 10, 0).nearest(0, 6));
        Checks.equal("of two as near, told backwards", 1, spots(5, 0, 10).nearest(0, 7));
        Checks.equal("as near as can be", 1, spots(5, 5, 5).nearest(0, 7));
        Checks.equal("nearer by the least", 2, spots(5, 10, 1).nearest(0, 6));
        Checks.equal("the farthest is one, too", 1, Texts.parkOf("way 0 0;way 999 999").nearest(0, 3));
        Checks.equal("the 12th", 11, twelve().nearest(10, 0xfff));
        Checks.equal("of the 12th", 10, twelve().nearest(11, 0xfff));

        Edge.of(21, "Sets are bits; of none they count for nothing");
        Checks.equal("all bits", 2, x.nearest(0, -1));
        Checks.equal("bits behind the ways", NONE, x.nearest(0, ~15));
        Checks.equal("the last bit alone", NONE, x.nearest(0, Integer.MIN_VALUE));
        Checks.equal("the last bit and one", 1, x.nearest(0, Integer.MIN_VALUE | 2));
        Checks.equal("no bit", NONE, x.nearest(0, 0));
        Checks.equal("the 12th bit of 12", 11, twelve().nearest(0, 1 << 11));
        Checks.equal("the 13th bit of 12", NONE, twelve().nearest(0, 1 << 12));

        Edge.of(21, "none without such");
        LeadPark one = spots(0);
        Checks.equal("one way", NONE, one.nearest(0, -1));
        Texts.law(x, "bar if far < 10");
        Checks.equal("the nearest has no least", 1, x.nearest(0, 15));
        Texts.law(x, "bar");
        Checks.equal("none has a least", NONE, x.nearest(0, 15));

        Edge.of(21, "NEAREST to a WAY (which is the man's)");
        Texts.law(x, "bar if mx < 1 and dx < 4");
        Checks.equal("the law sees it as the man's", 1, x.nearest(0, 15));
        Texts.law(x, "bar if dx < 1 and mx < 4");
        Checks.equal("and not as the dog's", 2, x.nearest(0, 15));
        Checks.equal("but the others so", 1, x.nearest(2, 15));

        Edge.of(21, "IndexOutOfBoundsException: there is no such WAY, CORNER, MARK");
        LeadPark all = twelve();
        for (int bad : NO_WAYS) {
            Checks.outOfBounds("way " + bad, () -> all.nearest(bad, -1));
        }
        Checks.outOfBounds("way 4 of 4", () -> x.nearest(4, 15));
        Checks.outOfBounds("no set", () -> x.nearest(4, 0));
        Checks.outOfBounds("a new park", () -> new LeadPark().nearest(0, 0));
    }

    private static void middle() {
        Edge.of(22, "by which the greatest LEAST to any other one of the set is the least");
        LeadPark x = spots(0, 10, 4, 6);
        Checks.equal("of all: 36 by both, of several the least", 2, x.middle(15));
        Checks.equal("without the first", 3, x.middle(14));
        Checks.equal("the 12th", 11, spots(0, 20, 40, 60, 80, 100, 120, 140, 160, 180, 200, 99).middle(1 | 1 << 10 | 1 << 11));
        Checks.equal("of 12", 5, twelve().middle(0xfff));
        LeadPark zero = Texts.parkOf("way 0 0 1 0;way 0 0 0 0 1 0");
        Texts.law(zero, "bar if man < 1 and dog > 0 and dog < 2");
        Checks.equal("the first has 1", 1, zero.least(0, 1));
        Checks.equal("the second has 0", 0, zero.least(1, 0));
        Checks.equal("so it is the middle", 1, zero.middle(3));

        Edge.of(22, "(0 without others)");
        Checks.equal("one way", 0, spots(7).middle(1));
        Checks.equal("one of many", 3, x.middle(8));
        LeadPark shut = spots(0, 10);
        Texts.law(shut, "bar");
        Checks.equal("whatever the law says", 1, shut.middle(2));

        Edge.of(22, "those with no LEAST to some other one do not count");
        LeadPark y = spots(0, 10, 4, 6);
        Texts.law(y, "bar if mx > 3 and mx < 5 and dx > 9");
        Checks.equal("as the man's to one of them", 3, y.middle(15));
        Checks.equal("to one that is not in the set", 2, y.middle(13));
        Texts.law(y, "bar if dx > 3 and dx < 5 and mx > 9");
        Checks.equal("not as the dog's", 2, y.middle(15));
        Texts.law(y, "bar if mx < 7 or dx < 1");
        Checks.equal("all but the farthest", NONE, y.middle(15));
        Texts.law(y, "bar if mx < 7");
        Checks.equal("the farthest", 1, y.middle(15));

        Edge.of(22, "of several the least; none without any");
        Checks.equal("of two", 0, spots(0, 9).middle(3));
        Checks.equal("of three as near", 0, spots(5, 5, 5).middle(7));
        Checks.equal("all shut", NONE, shut.middle(3));
        Checks.equal("no set", NONE, x.middle(0));
        Checks.equal("of no ways", NONE, new LeadPark().middle(-1));

        Edge.of(22, "Sets are bits; of none they count for nothing");
        Checks.equal("all bits", 2, x.middle(-1));
        Checks.equal("bits behind the ways", NONE, x.middle(~15));
        Checks.equal("the last bit", NONE, x.middle(Integer.MIN_VALUE));
        Checks.equal("the last bit and one", 1, x.middle(Integer.MIN_VALUE | 2));
        Checks.equal("the 13th of 12", NONE, twelve().middle(1 << 12));
    }

    private static void fewer() {
        Edge.of(23, "the fewest of its CORNERS, its first and last among them");
        LeadPark x = Texts.parkOf("way 5 5;way 5 5 6 6;way 0 0 9 9 0 0;way 0 0 5 0 10 0");
        for (int lead : new int[] {0, 1, Integer.MAX_VALUE}) {
            Checks.equal("one corner is both, by " + lead, 1, x.fewer(0, lead));
            Checks.equal("two corners, by " + lead, 3, x.fewer(1, lead));
        }
        Checks.equal("the longest lead", 5, x.fewer(2, Integer.MAX_VALUE));
        LeadPark thirty = Texts.parkOf("way " + Texts.repeated("5 5", " ", 30));
        Checks.equal("30 of one point", 1 | 1 << 29, thirty.fewer(0, 0));
        LeadPark zigzag = Texts.parkOf("way " + Texts.repeated("0 0 9 9", " ", 15));
        Checks.equal("all 30", (1 << 30) - 1, zigzag.fewer(0, 161));
        Checks.equal("two of 30", 1 | 1 << 29, zigzag.fewer(0, 162));

        Edge.of(23, "so that those (as a WAY) and the WAY itself have a WALK by that LEAD");
        Checks.equal("a corner too far by one", 7, x.fewer(2, 161));
        Checks.equal("and just near enough", 5, x.fewer(2, 162));
        Checks.equal("half a way off by both ends", 5, x.fewer(3, 25));
        Checks.equal("too far from both", 7, x.fewer(3, 24));
        Checks.equal("a lead of 0", 7, x.fewer(3, 0));
        LeadPark same = Texts.parkOf("way 0 0 0 0 5 0 5 0 5 0 0 0;way 0 0 0 0 0 0");
        Checks.equal("by 0 one of as many in one point", 1 | 1 << 2 | 1 << 5, same.fewer(0, 0));
        Checks.equal("by 0 the ends", 5, same.fewer(1, 0));
        LeadPark order = Texts.parkOf("way 0 0 9 0 0 0 9 0 0 0");
        Checks.equal("each in its turn", 31, order.fewer(0, 0));
        Checks.equal("by a lead that is nearly enough", 31, order.fewer(0, 80));
        Checks.equal("and enough", 17, order.fewer(0, 81));

        Edge.of(23, "(THE LAW and WALLS not looked at): as bits");
        Texts.law(x, "bar");
        Texts.park(x, "wall 0 0 999 999");
        Checks.equal("with both", 7, x.fewer(2, 161));

        Edge.of(23, "IllegalArgumentException: the LEAD is below 0");
        Checks.illegal("-1", () -> x.fewer(0, -1));
        Checks.illegal("the least", () -> x.fewer(0, Integer.MIN_VALUE));
        Edge.of(23, "Of several exceptions the one told first is thrown");
        for (int bad : NO_WAYS) {
            Checks.outOfBounds("no way and no lead " + bad, () -> x.fewer(bad, -1));
        }
        Checks.outOfBounds("way 4 of 4", () -> x.fewer(4, 0));
        Checks.outOfBounds("a new park", () -> new LeadPark().fewer(0, 0));
    }

    private static int bits(int... corners) {
        int bits = 0;
        for (int corner : corners) {
            bits |= 1 << corner;
        }
        return bits;
    }

    private static void fewerOfSeveral() {
        Edge.of(23, "of several the first (the least second one, then the third, ..)");
        Checks.equal("the least second one", bits(0, 1, 3),
                Texts.parkOf("way 0 0 9 0 9 0 0 0").fewer(0, 0));
        Checks.equal("the second one that can be", bits(0, 2, 4),
                Texts.parkOf("way 0 0 4 0 10 0 15 0 0 0").fewer(0, 25));
        Checks.equal("the first one, which can be by a longer lead", bits(0, 1, 4),
                Texts.parkOf("way 0 0 4 0 10 0 15 0 0 0").fewer(0, 121));
        Checks.equal("the least third one", bits(0, 2, 5, 8),
                Texts.parkOf("way 0 0 0 0 9 0 9 0 9 0 0 0 0 0 9 0 9 0").fewer(0, 0));
        Checks.equal("the first second one that leads on, not the nearest", bits(0, 1, 3),
                Texts.parkOf("way 0 0 6 0 9 0 0 0").fewer(0, 9));
        Checks.equal("a corner stands for all within the lead", bits(0, 1, 5),
                Texts.parkOf("way 0 0 8 0 9 0 9 0 8 0 0 0").fewer(0, 1));
        Checks.equal("also for what is far behind it", bits(0, 1, 6),
                Texts.parkOf("way 0 0 1 0 2 0 9 0 8 0 7 0 0 0").fewer(0, 64));
        Checks.equal("and not by one less", bits(0, 2, 6),
                Texts.parkOf("way 0 0 1 0 2 0 9 0 8 0 7 0 0 0").fewer(0, 63));
    }

    private static void own() {
        Edge.of(24, "the greatest LEAST of any two of a set of WAYS (the lesser number is the man's) is OWN (0 without two)");
        LeadPark x = spots(0, 5, 9);
        Checks.equal("of three", 81, x.own(7));
        Checks.equal("the first two", 25, x.own(3));
        Checks.equal("the last two", 16, x.own(6));
        Checks.equal("the outer two", 81, x.own(5));
        Checks.equal("one", 0, x.own(2));
        Checks.equal("none", 0, x.own(0));
        Checks.equal("of no ways", 0, new LeadPark().own(-1));
        Checks.equal("the 12th", 201 * 201, twelve().own(0xfff));
        Checks.equal("the last two of 12", 1, twelve().own(3 << 10));
        Texts.law(x, "bar if mx > dx");
        Checks.equal("the lesser number is the man's", 81, x.own(7));
        Texts.law(x, "bar if mx < dx");
        Checks.equal("and the greater the dog's", NONE, x.own(7));

        Edge.of(24, "HAND: OWN; NONE, if there is none for some two");
        Texts.law(x, "bar if mx < 1 and dx > 8");
        Checks.equal("for the outer two", NONE, x.own(7));
        Checks.equal("the others have one", 16, x.own(6));
        Texts.law(x, "bar if mx > 4 and dx > 8");
        Checks.equal("for the last two", NONE, x.own(7));
        Texts.law(x, "bar");
        Checks.equal("one way needs none", 0, x.own(4));

        Edge.of(24, "Sets are bits; of none they count for nothing");
        LeadPark y = spots(0, 5, 9);
        Checks.equal("all bits", 81, y.own(-1));
        Checks.equal("bits behind the ways", 0, y.own(~7));
        Checks.equal("one way and bits behind", 0, y.own(~3));
        Checks.equal("the last bit", 0, y.own(Integer.MIN_VALUE | 1));
        Checks.equal("the 13th of 12", 0, twelve().own(1 << 12 | 1));
    }

    private static void forged() {
        Edge.of(25, "if its LEAST to the NEAREST of that set (itself not) is more than OWN");
        LeadPark x = spots(0, 5, 10, 16);
        Checks.isFalse("just as far", x.forged(2, 3));
        Checks.isTrue("farther", x.forged(3, 3));
        Checks.isFalse("nearest of three", x.forged(3, 7));
        Checks.isTrue("farther by the least", spots(0, 5, 11).forged(2, 3));
        Checks.isFalse("itself is in the set", x.forged(3, 15));
        Checks.isFalse("itself and one: as far as OWN", x.forged(3, 12));
        Checks.isFalse("one way in the same point", spots(5, 5).forged(1, 1));
        Checks.isTrue("one way, by the least off", spots(5, 6).forged(1, 1));

        Edge.of(25, "or there is no NEAREST, or no OWN");
        Checks.isTrue("no set", x.forged(0, 0));
        Checks.isTrue("itself alone", x.forged(0, 1));
        Checks.isTrue("bits of no way", x.forged(0, ~15));
        Texts.law(x, "bar if mx > 15");
        Checks.isTrue("no least to any", x.forged(3, 7));
        Checks.isFalse("others have", x.forged(2, 3));

        Edge.of(25, "(It is, if OWN is none.)");
        Texts.law(x, "bar if mx < 1 and dx > 4 and dx < 6");
        Checks.isTrue("none for some two", x.forged(2, 3));
        Checks.isTrue("of more", x.forged(3, 7));
        Checks.isFalse("without these two", x.forged(3, 5));

        Edge.of(25, "Sets are bits; of none they count for nothing");
        LeadPark y = spots(0, 5, 10);
        Checks.isFalse("all bits", y.forged(2, -1));
        Checks.isTrue("the last bit alone", y.forged(2, Integer.MIN_VALUE));
        Checks.isFalse("the last bit and two", y.forged(2, Integer.MIN_VALUE | 3));

        Edge.of(25, "IndexOutOfBoundsException: there is no such WAY, CORNER, MARK");
        LeadPark all = twelve();
        for (int bad : NO_WAYS) {
            Checks.outOfBounds("way " + bad, () -> all.forged(bad, -1) ? 1 : 0);
        }
        Checks.outOfBounds("way 3 of 3", () -> y.forged(3, 7) ? 1 : 0);
        Checks.outOfBounds("a new park", () -> new LeadPark().forged(0, 0) ? 1 : 0);
    }
}
