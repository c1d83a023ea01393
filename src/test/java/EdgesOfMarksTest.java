/** Boundary cases of promises 26 to 29: TRACKS of MARKS, the lead they need, and which of them do not fit. */
public final class EdgesOfMarksTest {
    private static final int NONE = LeadPark.NONE;
    private static final boolean MAN = false;
    private static final boolean DOG = true;

    public static void main(String[] args) {
        mark();
        unmark();
        needed();
        fits();
        fitsPairs();
        Edge.finish(26, 29);
    }

    private static void mark() {
        Edge.of(26, "MARKS (at most 20 of both together, numbered from 0 on)");
        LeadPark x = new LeadPark();
        for (int k = 0; k < 20; k++) {
            Checks.equal("its number", k, x.mark(k % 3 == 0, 5, 0, 0));
        }
        Checks.equal("20", 20, x.count(4));

        Edge.of(26, "A MARK (of the dog, if told so): its number.");
        LeadPark told = new LeadPark();
        Checks.equal("the man's", 0, told.mark(MAN, 5, 0, 0));
        Checks.equal("again the man's", 1, told.mark(MAN, 5, 3, 4));
        Checks.equal("nobody is with him", NONE, told.needed());
        Checks.equal("the dog's", 2, told.mark(DOG, 5, 3, 4));
        Checks.equal("the dog is with him", 25, told.needed());

        Edge.of(26, "UnsupportedOperationException: there are 20");
        Checks.unsupported("the man's 21st", () -> x.mark(MAN, 0, 0, 0));
        Checks.unsupported("the dog's 21st", () -> x.mark(DOG, 0, 999, 999));
        Checks.equal("20 stay", 20, x.count(4));
        Checks.equal("they are as they were", 0, x.needed());
        x.unmark();
        Checks.equal("there is room again", 19, x.mark(DOG, 5, 3, 4));
        Checks.equal("for the new one", 25, x.needed());

        Edge.of(26, "Of several exceptions the one told first is thrown");
        Checks.illegal("21st and no minute", () -> x.mark(MAN, 1000, 0, 0));
        Checks.illegal("21st and no Y", () -> x.mark(MAN, 0, 0, -1));

        Edge.of(26, "a minute 0 to 999, X, Y");
        LeadPark y = new LeadPark();
        Checks.equal("the least", 0, y.mark(MAN, 0, 0, 0));
        Checks.equal("the greatest", 1, y.mark(DOG, 999, 999, 999));
        Checks.equal("the least with the greatest", 2, y.mark(DOG, 0, 999, 999));
        Checks.equal("are as told", 1996002, y.needed());

        Edge.of(26, "IllegalArgumentException: a number is none");
        for (int bad : new int[] {-1, 1000, Integer.MIN_VALUE, Integer.MAX_VALUE, 65536}) {
            for (boolean dog : new boolean[] {MAN, DOG}) {
                Checks.illegal("minute " + bad, () -> y.mark(dog, bad, 0, 0));
                Checks.illegal("X " + bad, () -> y.mark(dog, 0, bad, 0));
                Checks.illegal("Y " + bad, () -> y.mark(dog, 0, 0, bad));
            }
        }
        Checks.equal("none came", 3, y.count(4));
    }

    private static void unmark() {
        Edge.of(27, "The latest MARK is gone: its number; NONE without.");
        LeadPark x = new LeadPark();
        Checks.equal("without", NONE, x.unmark());
        Checks.equal("nor below", 0, x.count(4));
        for (int k = 0; k < 20; k++) {
            x.mark(k % 2 == 1, 7, k, 0);
        }
        Checks.equal("the farthest two", 361, x.needed());
        for (int k = 19; k >= 0; k--) {
            Checks.equal("its number", k, x.unmark());
            Checks.equal("how many are left", k, x.count(4));
            if (k > 2) {
                int farthest = k % 2 == 0 ? k - 1 : k - 2;
                Checks.equal("those that are left", farthest * farthest, x.needed());
            }
        }
        Checks.equal("none", NONE, x.unmark());
        Checks.equal("the next is 0", 0, x.mark(DOG, 1, 1, 1));
        Checks.equal("it alone is there", NONE, x.needed());
    }

    private static void needed() {
        Edge.of(28, "the greatest FAR of MARKS of the man and the dog of one minute; none without such");
        LeadPark x = new LeadPark();
        Checks.equal("without marks", NONE, x.needed());
        x.mark(MAN, 0, 0, 0);
        Checks.equal("the man alone", NONE, x.needed());
        x.mark(MAN, 0, 9, 9);
        Checks.equal("twice the man", NONE, x.needed());
        x.mark(DOG, 1, 9, 9);
        Checks.equal("a minute off", NONE, x.needed());
        x.mark(DOG, 999, 9, 9);
        Checks.equal("999 minutes off", NONE, x.needed());
        x.mark(DOG, 0, 9, 9);
        Checks.equal("one minute", 162, x.needed());
        x.mark(MAN, 999, 9, 9);
        Checks.equal("a lesser one behind", 162, x.needed());
        x.mark(MAN, 1, 999, 9);
        Checks.equal("a greater one behind", 990 * 990, x.needed());
        x.mark(DOG, 0, 999, 999);
        Checks.equal("the greatest there is", 1996002, x.needed());
        LeadPark y = new LeadPark();
        y.mark(DOG, 3, 3, 3);
        y.mark(MAN, 3, 3, 3);
        Checks.equal("0 is not none", 0, y.needed());
        LeadPark dogs = new LeadPark();
        dogs.mark(DOG, 3, 3, 3);
        dogs.mark(DOG, 3, 9, 3);
        Checks.equal("dogs alone", NONE, dogs.needed());
    }

    /** Two marks. */
    private static LeadPark two(boolean one, int minute, int x, boolean other, int otherMinute, int otherX) {
        LeadPark park = new LeadPark();
        park.mark(one, minute, x, 0);
        park.mark(other, otherMinute, otherX, 0);
        return park;
    }

    private static void fitting(String what, boolean due, LeadPark x, int length, int pace) {
        Checks.equal(what + ": how many do not", due ? 0 : 1, x.fits(length, pace, false));
        Checks.equal(what + ": the first", due ? NONE : 1, x.fits(length, pace, true));
    }

    private static void fits() {
        Edge.of(29, "if FAR is at most the square of: PACE times the minutes between, and L more, if they are of the two");
        fitting("just within L", true, two(MAN, 5, 0, DOG, 5, 10), 10, 0);
        fitting("too far by one", false, two(MAN, 5, 0, DOG, 5, 11), 10, 0);
        fitting("just within the pace", true, two(MAN, 5, 0, MAN, 7, 20), 0, 10);
        fitting("too fast by one", false, two(MAN, 5, 0, MAN, 7, 21), 0, 10);
        fitting("too fast, the later one first", false, two(DOG, 7, 0, DOG, 5, 21), 0, 10);
        fitting("within, the later one first", true, two(DOG, 7, 0, DOG, 5, 20), 0, 10);
        fitting("of one the length is nothing", false, two(MAN, 5, 0, MAN, 5, 1), 999, 99);
        fitting("nor of the dog", false, two(DOG, 5, 0, DOG, 5, 1), 999, 99);
        fitting("of the two both count", true, two(MAN, 5, 0, DOG, 7, 25), 5, 10);
        fitting("and no more", false, two(MAN, 5, 0, DOG, 7, 26), 5, 10);
        fitting("the dog first", true, two(DOG, 5, 0, MAN, 7, 25), 5, 10);
        fitting("and no more then", false, two(DOG, 7, 0, MAN, 5, 26), 5, 10);
        fitting("in one point at once", true, two(MAN, 5, 3, MAN, 5, 3), 0, 0);
        fitting("the longest and fastest", true, two(MAN, 0, 0, DOG, 999, 999), 999, 99);
        fitting("the fastest of one", true, two(DOG, 999, 0, DOG, 0, 999), 0, 99);
        LeadPark far = new LeadPark();
        far.mark(MAN, 0, 0, 0);
        far.mark(DOG, 999, 999, 999);
        fitting("a far one just fits", true, far, 414, 1);
        fitting("and does not", false, far, 413, 1);

        Edge.of(29, "L (0 to 999, not squared) and a PACE (0 to 99 each minute)");
        LeadPark x = two(MAN, 0, 0, DOG, 0, 999);
        fitting("999", true, x, 999, 0);
        fitting("998", false, x, 998, 99);
        fitting("0", false, x, 0, 0);
        LeadPark y = two(MAN, 1, 0, MAN, 2, 99);
        fitting("a pace of 99", true, y, 0, 99);
        fitting("a pace of 98", false, y, 999, 98);

        Edge.of(29, "IllegalArgumentException: L or PACE are none");
        for (int bad : new int[] {-1, 1000, Integer.MIN_VALUE, Integer.MAX_VALUE}) {
            Checks.illegal("L " + bad, () -> x.fits(bad, 0, false));
            Checks.illegal("L " + bad + " for the pair", () -> x.fits(bad, 0, true));
        }
        for (int bad : new int[] {-1, 100, Integer.MIN_VALUE, Integer.MAX_VALUE}) {
            Checks.illegal("pace " + bad, () -> x.fits(0, bad, false));
            Checks.illegal("pace " + bad + " for the pair", () -> x.fits(0, bad, true));
        }
        Checks.illegal("also without marks", () -> new LeadPark().fits(-1, 0, false));
    }

    private static void fitsPairs() {
        Edge.of(29, "FITS: how many pairs do not (pair false), or the first; NONE.");
        LeadPark three = new LeadPark();
        three.mark(MAN, 0, 0, 0);
        three.mark(MAN, 1, 5, 0);
        three.mark(MAN, 2, 20, 0);
        Checks.equal("one does not", 1, three.fits(0, 10, false));
        Checks.equal("the last two", 102, three.fits(0, 10, true));
        Checks.equal("all do", 0, three.fits(0, 15, false));
        Checks.equal("so there is no first", NONE, three.fits(0, 15, true));

        Edge.of(29, "how many pairs of MARKS do not");
        LeadPark x = new LeadPark();
        Checks.equal("without marks", 0, x.fits(0, 0, false));
        Checks.equal("no first", NONE, x.fits(0, 0, true));
        x.mark(MAN, 0, 0, 0);
        Checks.equal("one mark", 0, x.fits(0, 0, false));
        Checks.equal("nor a first", NONE, x.fits(0, 0, true));
        for (int k = 1; k < 20; k++) {
            x.mark(k % 2 == 0, 0, k, 0);
        }
        Checks.equal("all 190", 190, x.fits(0, 99, false));
        Checks.equal("the first of all", 1, x.fits(0, 99, true));

        Edge.of(29, "the first that does not (the least number of the one, then the other): 100 times the one and the other; none");
        LeadPark y = new LeadPark();
        for (int k = 0; k < 19; k++) {
            y.mark(DOG, 0, 7, 7);
        }
        y.mark(MAN, 0, 7, 8);
        Checks.equal("the last with the first", 19, y.fits(0, 0, true));
        Checks.equal("19 of them", 19, y.fits(0, 0, false));
        Checks.equal("within a lead of one", NONE, y.fits(1, 0, true));
        LeadPark z = new LeadPark();
        for (int k = 0; k < 18; k++) {
            z.mark(DOG, k, 500, 0);
        }
        z.mark(MAN, 17, 500, 0);
        z.mark(MAN, 18, 550, 0);
        Checks.equal("the last two alone", 1819, z.fits(48, 3, true));
        LeadPark w = new LeadPark();
        w.mark(MAN, 0, 0, 0);
        w.mark(MAN, 9, 0, 0);
        w.mark(MAN, 9, 1, 0);
        w.mark(MAN, 9, 0, 1);
        Checks.equal("the one ahead of the other", 102, w.fits(0, 1, true));
        Checks.equal("three of them", 3, w.fits(0, 1, false));
        w.mark(MAN, 1, 0, 2);
        Checks.equal("a later one with an earlier", 4, w.fits(0, 1, true));
    }
}
