/** Promises 7 to 10: CORNERS, FAR and SHUT. */
public final class PlaceTest {
    public static void main(String[] args) {
        promise7();
        promise8();
        promise9();
        promise10Walls();
        promise10Law();
        Checks.finish();
    }

    private static void promise7() {
        LeadPark x = Texts.parkOf("way 1 2 3 4;way 5 6");
        Checks.equal("x", 3, x.corner(0, 1, false));
        Checks.equal("y", 4, x.corner(0, 1, true));
        Checks.equal("x of the other", 5, x.corner(1, 0, false));
        for (int bad : new int[] {-1, 2, 12, Integer.MAX_VALUE, Integer.MIN_VALUE}) {
            Checks.outOfBounds("way " + bad, () -> x.corner(bad, 0, false));
            Checks.outOfBounds("corner " + bad, () -> x.corner(0, bad, true));
        }
        Checks.outOfBounds("a corner of the other", () -> x.corner(1, 1, true));
    }

    private static void promise8() {
        LeadPark x = Texts.parkOf("way 1 2 3 4 5 6;way 5 6");
        Checks.equal("three", 3, x.corners(0));
        Checks.equal("one", 1, x.corners(1));
        Checks.outOfBounds("way 2", () -> x.corners(2));
        Checks.outOfBounds("way -1", () -> x.corners(-1));
    }

    private static void promise9() {
        LeadPark x = Texts.parkOf("way 0 0 3 4;way 999 999 6 8");
        Checks.equal("the most", 1996002, x.far(0, 0, 1, 0));
        Checks.equal("far", 25, x.far(0, 1, 1, 1));
        Checks.equal("of one way", 25, x.far(0, 1, 0, 0));
        Checks.equal("of one point", 0, x.far(0, 1, 0, 1));
        Checks.outOfBounds("m", () -> x.far(0, 2, 1, 0));
        Checks.outOfBounds("d", () -> x.far(0, 0, 1, 2));
        Checks.outOfBounds("way", () -> x.far(2, 0, 1, 0));
        Checks.outOfBounds("other", () -> x.far(0, 0, -1, 0));
        Checks.outOfBounds("m below", () -> x.far(0, -1, 1, 0));
        Checks.outOfBounds("d below", () -> x.far(0, 0, 1, -1));
    }

    private static boolean walled(String man, String dog, String wall) {
        LeadPark x = Texts.parkOf("way " + man + ";way " + dog + ";wall " + wall);
        boolean one = x.shut(0, 0, 1, 0);
        Checks.equal("either way round", one ? 1 : 0, x.shut(1, 0, 0, 0) ? 1 : 0);
        return one;
    }

    private static void promise10Walls() {
        Checks.isTrue("across", walled("0 0", "10 10", "0 10 10 0"));
        Checks.isFalse("short of it", walled("0 0", "4 4", "0 10 10 0"));
        Checks.isTrue("the dog on it", walled("0 0", "5 5", "0 10 10 0"));
        Checks.isTrue("its end on the lead", walled("0 0", "10 10", "5 5 9 0"));
        Checks.isFalse("its end beside the lead", walled("0 0", "10 10", "5 4 9 0"));
        Checks.isTrue("end on end", walled("0 0", "10 10", "10 10 20 0"));
        Checks.isTrue("along it", walled("0 0", "10 10", "2 2 4 4"));
        Checks.isTrue("along it, one over the other", walled("0 0", "10 10", "8 8 14 14"));
        Checks.isFalse("in one line, but apart", walled("0 0", "10 10", "11 11 14 14"));
        Checks.isFalse("side by side", walled("0 0", "10 10", "0 1 10 11"));
        Checks.isTrue("a wall that is a point", walled("0 0", "10 10", "3 3 3 3"));
        Checks.isFalse("a point beside", walled("0 0", "10 10", "3 4 3 4"));
        Checks.isTrue("a lead that is a point", walled("5 5", "5 5", "0 0 10 10"));
        Checks.isFalse("a point of a lead beside", walled("5 6", "5 6", "0 0 10 10"));
        Checks.isFalse("a point of a lead behind", walled("11 11", "11 11", "0 0 10 10"));
        Checks.isTrue("all one point", walled("7 7", "7 7", "7 7 7 7"));
        Checks.isTrue("large", walled("0 0", "999 999", "0 999 999 0"));
        Checks.isFalse("large and just beside", walled("0 0", "999 998", "999 999 500 500"));
        Checks.isTrue("large and just on it", walled("0 0", "999 998", "999 998 500 999"));
        LeadPark x = Texts.parkOf("way 0 0;way 10 10;wall 900 900 901 901;wall 0 10 10 0");
        Checks.isTrue("some wall", x.shut(0, 0, 1, 0));
        Checks.isFalse("no wall", x.shut(0, 0, 0, 0));
    }

    private static void promise10Law() {
        LeadPark x = Texts.parkOf("way 0 0 1 1;way 10 10 20 20");
        Checks.isFalse("without a law", x.shut(0, 0, 1, 1));
        Texts.law(x, "bar if dog > man");
        Checks.isTrue("dog ahead", x.shut(0, 0, 1, 1));
        Checks.isFalse("man ahead", x.shut(0, 1, 1, 0));
        Checks.isTrue("the first way is the man's", x.shut(1, 0, 0, 1));
        Checks.outOfBounds("m", () -> x.shut(0, 2, 1, 0) ? 1 : 0);
        Checks.outOfBounds("d", () -> x.shut(0, 0, 1, 2) ? 1 : 0);
        Checks.outOfBounds("way", () -> x.shut(2, 0, 1, 0) ? 1 : 0);
        Checks.outOfBounds("other", () -> x.shut(0, 0, 2, 0) ? 1 : 0);
        Checks.outOfBounds("below", () -> x.shut(0, -1, 0, 0) ? 1 : 0);
    }
}
