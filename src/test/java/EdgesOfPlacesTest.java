/** Boundary cases of promises 7 to 10: CORNERS, FAR and SHUT. */
public final class EdgesOfPlacesTest {
    private static final int[] FAR_OFF = {Integer.MIN_VALUE, Integer.MIN_VALUE + 1, -2, -1, 30, 31, 12 * 30, Integer.MAX_VALUE};

    public static void main(String[] args) {
        corner();
        corners();
        far();
        shutByWalls();
        shutByPoints();
        shutByLaw();
        noSuchPlace();
        Edge.finish(7, 10);
    }

    /** Twelve ways, the first of 30 corners, the last of 30, all between of one. */
    private static LeadPark full() {
        LeadPark x = Texts.parkOf("way " + Texts.repeated("1 2", " ", 29) + " 998 999");
        Texts.park(x, Texts.repeated("way 5 6", ";", 10));
        Texts.park(x, "way " + Texts.repeated("3 4", " ", 29) + " 996 997");
        return x;
    }

    private static void corner() {
        Edge.of(7, "Of a CORNER: X (up false), or Y.");
        LeadPark x = full();
        Checks.equal("first X", 1, x.corner(0, 0, false));
        Checks.equal("first Y", 2, x.corner(0, 0, true));
        Checks.equal("30th X", 998, x.corner(0, 29, false));
        Checks.equal("30th Y", 999, x.corner(0, 29, true));
        Checks.equal("the next way's X", 5, x.corner(1, 0, false));
        Checks.equal("12th way's first", 4, x.corner(11, 0, true));
        Checks.equal("12th way's last X", 996, x.corner(11, 29, false));
        Checks.equal("12th way's last Y", 997, x.corner(11, 29, true));

        Edge.of(7, "IndexOutOfBoundsException: there is no such WAY, CORNER, MARK");
        for (int bad : FAR_OFF) {
            Checks.outOfBounds("way " + bad, () -> x.corner(bad, 0, false));
            Checks.outOfBounds("corner " + bad, () -> x.corner(0, bad, true));
            Checks.outOfBounds("corner " + bad + " of the last", () -> x.corner(11, bad, true));
        }
        Checks.outOfBounds("way 12", () -> x.corner(12, 0, false));
        Checks.outOfBounds("a 2nd of one", () -> x.corner(1, 1, false));
        Checks.outOfBounds("a new park", () -> new LeadPark().corner(0, 0, false));
    }

    private static void corners() {
        Edge.of(8, "How many CORNERS.");
        LeadPark x = full();
        Checks.equal("30", 30, x.corners(0));
        Checks.equal("1", 1, x.corners(10));
        Checks.equal("30 of the 12th", 30, x.corners(11));
        Texts.park(x, "more 10 1 1");
        Checks.equal("2 by more", 2, x.corners(10));

        Edge.of(8, "IndexOutOfBoundsException: there is no such WAY, CORNER, MARK");
        for (int bad : FAR_OFF) {
            Checks.outOfBounds("way " + bad, () -> x.corners(bad));
        }
        Checks.outOfBounds("way 12", () -> x.corners(12));
        Checks.outOfBounds("way 1 of 1", () -> Texts.parkOf("way 1 1").corners(1));
        Checks.outOfBounds("a new park", () -> new LeadPark().corners(0));
    }

    private static void far() {
        Edge.of(9, "FAR of two points: the square of X off and the square of Y off, together.");
        LeadPark x = Texts.parkOf("way 0 0 999 999 0 999;way 999 999 0 0 999 0");
        Checks.equal("the greatest", 1996002, x.far(0, 0, 1, 0));
        Checks.equal("the other way round", 1996002, x.far(1, 0, 0, 0));
        Checks.equal("by the other corners", 1996002, x.far(0, 2, 1, 2));
        Checks.equal("X alone", 998001, x.far(0, 0, 1, 2));
        Checks.equal("Y alone", 998001, x.far(0, 2, 1, 1));
        Checks.equal("nothing", 0, x.far(0, 0, 1, 1));
        Checks.equal("of one way", 1996002, x.far(0, 0, 0, 1));
        Checks.equal("of one corner", 0, x.far(0, 1, 0, 1));
        LeadPark y = full();
        Checks.equal("the last of all", 4 + 4, y.far(0, 29, 11, 29));
        Texts.law(x, "bar");
        Checks.equal("a law changes nothing", 1996002, x.far(0, 0, 1, 0));
    }

    /** Whether a wall shuts the place, told by both ways round of the lead and of the wall. */
    private static void wall(String what, boolean due, String man, String dog, String oneEnd, String otherEnd) {
        for (int turn = 0; turn < 4; turn++) {
            String lead = (turn & 1) == 0 ? "way " + man + ";way " + dog : "way " + dog + ";way " + man;
            String ends = (turn & 2) == 0 ? oneEnd + " " + otherEnd : otherEnd + " " + oneEnd;
            LeadPark x = Texts.parkOf(lead + ";wall " + ends);
            Checks.equal(what + ", turned " + turn, due ? 1 : 0, x.shut(0, 0, 1, 0) ? 1 : 0);
        }
    }

    private static void shutByWalls() {
        Edge.of(10, "a WALL has a point in common with the straight line from the one CORNER to the other");
        wall("across", true, "0 0", "10 10", "0 10", "10 0");
        wall("across at no whole point", true, "0 0", "3 1", "1 1", "2 0");
        wall("short of it", false, "0 0", "4 4", "0 10", "10 0");
        wall("the wall is short", false, "0 0", "10 10", "0 10", "4 6");
        wall("parallel", false, "0 0", "10 10", "0 1", "9 10");
        wall("in one line, but apart", false, "0 0", "4 4", "5 5", "9 9");
        wall("level and in one line, but apart", false, "0 5", "4 5", "5 5", "9 5");
        wall("upright and in one line, but apart", false, "5 0", "5 4", "5 5", "5 9");
        wall("over one another", true, "0 0", "5 5", "4 4", "9 9");
        wall("one within the other", true, "0 0", "9 9", "4 4", "5 5");
        wall("the same", true, "2 3", "7 5", "2 3", "7 5");
        wall("level and upright", true, "0 5", "10 5", "5 0", "5 10");
        wall("beside its end", false, "0 0", "10 0", "11 1", "11 9");
        wall("boxes meet, but not they", false, "0 0", "10 10", "6 5", "10 1");
        wall("boxes meet on the other side", false, "6 5", "10 1", "0 0", "10 10");
        wall("the greatest of all", true, "0 0", "999 999", "0 999", "999 0");
        wall("the greatest, in one line", true, "0 0", "999 999", "999 999", "0 0");
        wall("beside by the least", false, "0 0", "999 998", "999 999", "0 1");
        wall("just beside, from one side", false, "0 0", "999 999", "999 0", "501 500");
        wall("just beside, from the other", false, "0 0", "999 999", "0 999", "500 501");
        wall("just through", true, "0 0", "999 999", "999 0", "500 501");
        wall("a thin miss", false, "0 0", "999 998", "998 998", "0 999");
        wall("a thin miss below", false, "0 0", "999 998", "998 996", "999 0");

        Edge.of(10, "(ends too; if both are one point: that point)");
        wall("end on end", true, "0 0", "5 5", "5 5", "9 0");
        wall("end on end, in one line", true, "0 0", "5 5", "5 5", "9 9");
        wall("level end on end", true, "0 5", "5 5", "5 5", "9 5");
        wall("the wall's end on the lead", true, "0 0", "10 10", "5 5", "9 0");
        wall("the lead's end on the wall", true, "0 10", "5 5", "0 0", "10 10");
        wall("just through the greatest", true, "0 0", "999 999", "999 0", "500 500");
        wall("the man's end at a far end", true, "999 999", "0 5", "999 999", "999 0");
        wall("one beside the end", false, "0 0", "5 5", "6 5", "9 0");

        Edge.of(10, "WALLS (at most 8, numbered from 0 on): from X Y to X Y");
        for (int at = 0; at < 8; at++) {
            LeadPark x = Texts.parkOf("way 0 0;way 9 0;"
                    + Texts.repeated("wall 0 5 9 5;", "", at) + "wall 4 0 4 9" + Texts.repeated(";wall 0 5 9 5", "", 7 - at));
            Checks.isTrue("wall " + at, x.shut(0, 0, 1, 0));
        }
        wallsOfTheirOwn();
        LeadPark none = Texts.parkOf("way 0 0;way 9 0;" + Texts.repeated("wall 0 5 9 5", ";", 8));
        Checks.isFalse("none of 8", none.shut(0, 0, 1, 0));
        Checks.isFalse("nor a wall that was not told", Texts.parkOf("way 0 0").shut(0, 0, 0, 0));
    }

    /** Eight walls, each at a place of its own: their ends are shut, and the points beside them are open. */
    private static void wallsOfTheirOwn() {
        StringBuilder walls = new StringBuilder();
        StringBuilder ends = new StringBuilder("way");
        StringBuilder beside = new StringBuilder("way");
        for (int k = 0; k < 8; k++) {
            int x = 100 * k + 10;
            int y = 50 * k + 20;
            walls.append(k == 0 ? "wall " : ";wall ").append(x + " " + y + " " + (x + 3) + " " + (y + 7));
            ends.append(" " + x + " " + y + " " + (x + 3) + " " + (y + 7));
            beside.append(" " + (x + 1) + " " + y + " " + (x + 3) + " " + (y + 6));
        }
        LeadPark x = Texts.parkOf(ends.toString());
        Texts.park(x, beside.toString());
        Texts.park(x, walls.toString());
        for (int k = 0; k < 16; k++) {
            Checks.isTrue("end " + k, x.shut(0, k, 0, k));
            Checks.isFalse("beside end " + k, x.shut(1, k, 1, k));
        }
    }

    private static void shutByPoints() {
        Edge.of(10, "if both are one point: that point");
        wall("a point on the wall", true, "5 5", "5 5", "0 0", "10 10");
        wall("a point at its end", true, "10 10", "10 10", "0 0", "10 10");
        wall("a point behind its end", false, "11 11", "11 11", "0 0", "10 10");
        wall("a point ahead of it", false, "1 1", "1 1", "2 2", "10 10");
        wall("a point beside", false, "5 6", "5 6", "0 0", "10 10");
        wall("a point on a level wall", true, "5 5", "5 5", "0 5", "10 5");
        wall("a point in line with a level wall", false, "11 5", "11 5", "0 5", "10 5");
        wall("a point in line with an upright wall", false, "5 11", "5 11", "5 0", "5 10");
        wall("far off by the least", false, "500 500", "500 500", "0 0", "999 998");
        wall("a wall that is a point, on the lead", true, "0 0", "10 10", "3 3", "3 3");
        wall("a wall that is a point, at its end", true, "0 0", "10 10", "10 10", "10 10");
        wall("a wall that is a point, beside", false, "0 0", "10 10", "3 4", "3 4");
        wall("a wall that is a point, behind", false, "0 0", "10 10", "11 11", "11 11");
        wall("a wall that is a point, beside by the least", false, "0 0", "3 1", "2 1", "2 1");
        wall("beside by the least on the other side", false, "0 0", "3 1", "1 0", "1 0");
        wall("a point beside a wall by the least", false, "2 1", "2 1", "0 0", "3 1");
        wall("a point on the other side of the wall", false, "1 0", "1 0", "0 0", "3 1");
        wall("two points that are one", true, "7 7", "7 7", "7 7", "7 7");
        wall("two points beside one another", false, "7 7", "7 7", "7 8", "7 8");
        wall("two points level", false, "7 7", "7 7", "8 7", "8 7");
    }

    private static void shutByLaw() {
        Edge.of(10, "It is SHUT, if some bar LINE of THE LAW holds");
        LeadPark x = Texts.parkOf("way 0 0 1 1;way 10 10 20 20");
        Checks.isFalse("without a law", x.shut(0, 0, 1, 0));
        Texts.law(x, "");
        Checks.isFalse("without a line", x.shut(0, 0, 1, 0));
        for (int at = 0; at < 12; at++) {
            Texts.law(x, Texts.repeated("bar if 1<0;", "", at) + "bar if 0<1" + Texts.repeated(";bar if 1<0", "", 11 - at));
            Checks.isTrue("line " + at + " of 12", x.shut(0, 0, 1, 0));
        }
        Texts.law(x, Texts.repeated("bar if 1<0", ";", 12));
        Checks.isFalse("none of 12", x.shut(0, 0, 1, 0));
        Texts.park(x, "wall 5 5 5 5");
        Checks.isTrue("or by a wall", x.shut(0, 0, 1, 0));
        Texts.law(x, "bar if 0<1");
        Checks.isTrue("or by both", x.shut(0, 0, 1, 0));
        Checks.isTrue("or by the law alone", x.shut(0, 0, 0, 0));

        Edge.of(10, "a CORNER of the first (M, the man's), a CORNER of the second (D, the dog's)");
        LeadPark y = Texts.parkOf("way 0 0 1 1;way 10 10 20 20");
        Texts.law(y, "bar if mx < 2 and man > 0 and dx > 9 and dog < 1");
        Checks.isTrue("the first is the man's", y.shut(0, 1, 1, 0));
        Checks.isFalse("and not the dog's", y.shut(1, 0, 0, 1));
        Texts.law(y, "bar if man > dog");
        Checks.isTrue("of one way, too", y.shut(0, 1, 0, 0));
        Checks.isFalse("by its numbers", y.shut(0, 0, 0, 1));
    }

    private static void noSuchPlace() {
        LeadPark x = full();
        for (int promise = 9; promise <= 10; promise++) {
            Edge.of(promise, "IndexOutOfBoundsException: there is no such WAY, CORNER, MARK");
            boolean far = promise == 9;
            for (int bad : FAR_OFF) {
                Checks.outOfBounds("way " + bad, () -> asked(x, far, bad, 0, 0, 0));
                Checks.outOfBounds("m " + bad, () -> asked(x, far, 0, bad, 0, 0));
                Checks.outOfBounds("other " + bad, () -> asked(x, far, 0, 0, bad, 0));
                Checks.outOfBounds("d " + bad, () -> asked(x, far, 0, 0, 11, bad));
            }
            Checks.outOfBounds("way 12", () -> asked(x, far, 12, 0, 0, 0));
            Checks.outOfBounds("other 12", () -> asked(x, far, 0, 0, 12, 0));
            Checks.outOfBounds("m of the other", () -> asked(x, far, 1, 1, 0, 0));
            Checks.outOfBounds("d of the other", () -> asked(x, far, 0, 1, 1, 1));
            Checks.outOfBounds("a new park", () -> asked(new LeadPark(), far, 0, 0, 0, 0));
            Checks.equal("the last ones are there", far ? 8 : 0, asked(x, far, 0, 29, 11, 29));
        }
    }

    private static long asked(LeadPark x, boolean far, int way, int m, int other, int d) {
        return far ? x.far(way, m, other, d) : x.shut(way, m, other, d) ? 1 : 0;
    }
}
