/** Promises 26 to 29: TRACKS. */
public final class MarkTest {
    private static final int NONE = LeadPark.NONE;

    public static void main(String[] args) {
        promise26();
        promise27();
        promise28();
        promise29();
        Checks.finish();
    }

    private static void promise26() {
        LeadPark x = new LeadPark();
        for (int k = 0; k < 20; k++) {
            Checks.equal("number", k, x.mark(k % 3 == 0, 999 * (k % 2), 999, 0));
        }
        Checks.unsupported("the 21st", () -> x.mark(true, 0, 0, 0));
        Checks.illegal("told first", () -> x.mark(true, 1000, 0, 0));
        Checks.equal("20", 20, x.count(4));
        LeadPark y = new LeadPark();
        for (int bad : new int[] {-1, 1000, Integer.MIN_VALUE, Integer.MAX_VALUE}) {
            Checks.illegal("minute " + bad, () -> y.mark(false, bad, 0, 0));
            Checks.illegal("x " + bad, () -> y.mark(false, 0, bad, 0));
            Checks.illegal("y " + bad, () -> y.mark(true, 0, 0, bad));
        }
        Checks.equal("none came", 0, y.count(4));
    }

    private static void promise27() {
        LeadPark x = new LeadPark();
        Checks.equal("without", NONE, x.unmark());
        x.mark(false, 1, 0, 0);
        x.mark(true, 1, 3, 4);
        x.mark(true, 1, 30, 40);
        Checks.equal("the latest", 2, x.unmark());
        Checks.equal("it is gone", 25, x.needed());
        Checks.equal("its number is free", 2, x.mark(true, 1, 6, 8));
        Checks.equal("and the new one counts", 100, x.needed());
        Checks.equal("2", 2, x.unmark());
        Checks.equal("1", 1, x.unmark());
        Checks.equal("0", 0, x.unmark());
        Checks.equal("none", NONE, x.unmark());
    }

    private static void promise28() {
        LeadPark x = new LeadPark();
        Checks.equal("without marks", NONE, x.needed());
        x.mark(true, 1, 0, 0);
        x.mark(true, 1, 9, 0);
        x.mark(false, 2, 9, 9);
        Checks.equal("not of one minute", NONE, x.needed());
        x.mark(false, 1, 0, 0);
        Checks.equal("one minute", 81, x.needed());
        x.mark(true, 2, 9, 9);
        Checks.equal("the greatest stays", 81, x.needed());
        x.mark(true, 2, 999, 999);
        Checks.equal("the greatest", 2 * 990 * 990, x.needed());
        LeadPark y = new LeadPark();
        y.mark(true, 5, 7, 7);
        y.mark(false, 5, 7, 7);
        Checks.equal("0 is not none", 0, y.needed());
    }

    private static void promise29() {
        LeadPark x = new LeadPark();
        Checks.equal("no pairs", 0, x.fits(0, 0, false));
        Checks.equal("no first", NONE, x.fits(0, 0, true));
        x.mark(false, 10, 0, 0);
        x.mark(true, 10, 5, 0);
        x.mark(true, 8, 5, 6);
        x.mark(false, 10, 1, 0);
        Checks.equal("the man is twice at 10", 1, x.fits(999, 99, false));
        Checks.equal("0 and 3", 3, x.fits(999, 99, true));
        Checks.equal("length alone", 2, x.fits(8, 0, false));
        Checks.equal("length alone: first", 3, x.fits(8, 0, true));
        Checks.equal("a length just long enough", 3, x.fits(5, 3, true));
        Checks.equal("a length too short", 1, x.fits(4, 3, true));
        Checks.equal("all of them", 6, x.fits(3, 2, false));
        x.unmark();
        Checks.equal("one and two", 102, x.fits(999, 2, true));
        Checks.equal("the pace just fits", NONE, x.fits(999, 3, true));
        LeadPark y = new LeadPark();
        y.mark(false, 0, 0, 0);
        y.mark(true, 999, 999, 999);
        Checks.equal("a reach whose square is more than an int", 0, y.fits(999, 99, false));
        Checks.equal("and one too short", 1, y.fits(413, 1, false));
        Checks.equal("and one just long enough", 0, y.fits(414, 1, false));
        Checks.illegal("length below", () -> x.fits(-1, 0, false));
        Checks.illegal("length above", () -> x.fits(1000, 0, false));
        Checks.illegal("pace below", () -> x.fits(0, -1, true));
        Checks.illegal("pace above", () -> x.fits(0, 100, true));
    }
}
