import java.util.function.LongSupplier;

/** Boundary cases of promises 11 to 20: WALKS, and those by parts, back, round, with two dogs and with least dragging. */
public final class EdgesOfWalksTest {
    private static final int NONE = LeadPark.NONE;
    private static final String THIRTY = Texts.repeated("0 0", " ", 30);
    /** By ways of 30: corner 1 of the man is open with the dog's last alone, those behind with the dog's first alone. */
    private static final String NOT_ROUND_THE_EDGE =
            "bar if man > 0 and man < 2 and dog < 29; bar if man > 1 and man < 29 and dog > 0";
    private static final String NOT_ROUND_THE_OTHER_EDGE =
            "bar if dog > 0 and dog < 2 and man < 29; bar if dog > 1 and dog < 29 and man > 0";

    public static void main(String[] args) {
        least();
        leastSteps();
        first();
        firstOrder();
        bars();
        judge();
        judgeRefuses();
        parts();
        back();
        backMazes();
        ring();
        ringOnce();
        dogs();
        three();
        drag();
        noSuchWay();
        largest();
        manyCalls();
        Edge.finish(11, 20);
    }

    private static LeadPark park(String text, String law) {
        LeadPark x = Texts.parkOf(text);
        Texts.law(x, law);
        return x;
    }

    private static LeadPark thirties(String law) {
        return park("way " + THIRTY + ";way " + THIRTY, law);
    }

    /** A way along X alone. */
    private static String line(int... xs) {
        StringBuilder all = new StringBuilder("way");
        for (int x : xs) {
            all.append(' ').append(x).append(" 0");
        }
        return all.toString();
    }

    /**
     * A park of two ways with no PLACE open but those told, each by 10 times M and D: the man's corner M is at
     * X 10 times M, the dog's corner D at X D.
     */
    private static LeadPark maze(int rows, int columns, int without, int... open) {
        int[] men = new int[rows];
        for (int m = 0; m < rows; m++) {
            men[m] = 10 * m;
        }
        int[] dogs = new int[columns];
        for (int d = 0; d < columns; d++) {
            dogs[d] = d;
        }
        StringBuilder law = new StringBuilder();
        int firstShut = NONE;
        int lastShut = NONE;
        for (int cell = 0; cell < rows * columns; cell++) {
            int code = 10 * (cell / columns) + cell % columns;
            if (code == without || !isOneOf(code, open)) {
                firstShut = firstShut == NONE ? code : firstShut;
                lastShut = code;
            } else if (firstShut != NONE) {
                shut(law, firstShut, lastShut);
                firstShut = NONE;
            }
        }
        if (firstShut != NONE) {
            shut(law, firstShut, lastShut);
        }
        return park(line(men) + ";" + line(dogs), law.toString());
    }

    private static boolean isOneOf(int code, int... open) {
        for (int one : open) {
            if (one == code) {
                return true;
            }
        }
        return false;
    }

    private static void shut(StringBuilder law, int from, int to) {
        law.append(law.length() == 0 ? "bar if " : ";bar if ");
        if (from > 0) {
            law.append("mx+dx>").append(from - 1).append(" and ");
        }
        law.append("mx+dx<").append(to + 1);
    }

    private static int mazeFar(int... open) {
        int most = 0;
        for (int code : open) {
            int off = 10 * (code / 10) - code % 10;
            most = Math.max(most, off * off);
        }
        return most;
    }

    // ---- promise 11

    private static void least() {
        Edge.of(11, "from the first CORNERS of both to the last ones");
        Checks.equal("one corner each", 25, Texts.parkOf("way 5 5;way 8 9").least(0, 1));
        Checks.equal("one point", 0, Texts.parkOf("way 5 5").least(0, 0));
        Checks.equal("the begin counts", 81, Texts.parkOf(line(0, 0) + ";" + line(9, 0)).least(0, 1));
        Checks.equal("the end counts", 81, Texts.parkOf(line(0, 0) + ";" + line(0, 9)).least(0, 1));
        Checks.equal("one stands", 81, Texts.parkOf(line(5) + ";" + line(5, 14, 5)).least(0, 1));
        Checks.equal("the other stands", 81, Texts.parkOf(line(5) + ";" + line(5, 14, 5)).least(1, 0));
        Checks.equal("the greatest", 1996002, Texts.parkOf("way 0 0;way 999 999").least(0, 1));
        Checks.equal("30 corners", 0, thirties("").least(0, 1));

        Edge.of(11, "the greatest FAR of its PLACES, the least of all WALKS");
        LeadPark x = Texts.parkOf(line(0, 100, 0, 100, 0) + ";" + line(0, 50, 100, 50, 0));
        Checks.equal("the dog is between", 2500, x.least(0, 1));
        Checks.equal("the other way round", 2500, x.least(1, 0));
        Checks.equal("together", 0, x.least(0, 0));

        Edge.of(11, "No PLACE of it is SHUT.");
        String two = "way 0 0 0 0;way 0 0 0 0";
        Checks.equal("the begin", NONE, park(two, "bar if man+dog < 1").least(0, 1));
        Checks.equal("the end", NONE, park(two, "bar if man+dog > 1").least(0, 1));
        Checks.equal("all between is open by both", 0, park(two, "bar if man+dog > 0 and man+dog < 2").least(0, 1));
        Checks.equal("begin of one corner each", NONE, park("way 5 5;way 8 9", "bar").least(0, 1));
        LeadPark walled = Texts.parkOf("way 0 0;way 9 9;wall 5 5 5 5");
        Checks.equal("by a wall", NONE, walled.least(0, 1));
        Checks.equal("not by it", 0, walled.least(0, 0));

        Edge.of(11, "none, if there is none");
        Checks.equal("all shut", NONE, park(two, "bar").least(0, 0));
        Checks.equal("a band of two", NONE, thirties("bar if man+dog > 28 and man+dog < 31").least(0, 1));
        Checks.equal("not round the edge", NONE, thirties(NOT_ROUND_THE_EDGE).least(0, 1));
        Checks.equal("nor round the other", NONE, thirties(NOT_ROUND_THE_OTHER_EDGE).least(0, 1));
    }

    private static void leastSteps() {
        Edge.of(11, "by STEPS: 1 the man alone, 2 the dog alone, 3 both: each to the next CORNER");
        Checks.equal("a band of one is gone over by both", 0, thirties("bar if man+dog > 28 and man+dog < 30").least(0, 1));
        Checks.equal("the man alone all along", 0, thirties("bar if man < 29 and dog > 0").least(0, 1));
        Checks.equal("the dog alone all along", 0, thirties("bar if dog < 29 and man > 0").least(0, 1));
        Checks.equal("both all along", 0, thirties("bar if man > dog or dog > man").least(0, 1));
        Checks.equal("never back", 10000, Texts.parkOf(line(0, 100, 0, 100) + ";" + line(0, 100)).least(0, 1));
        int[] chain = {0, 10, 20, 31, 32, 33, 44, 54, 65};
        Checks.equal("a maze", mazeFar(chain), maze(7, 6, NONE, chain).least(0, 1));
        for (int place : chain) {
            Checks.equal("a maze without " + place, NONE, maze(7, 6, place, chain).least(0, 1));
        }
    }

    // ---- promise 12

    private static void first() {
        Edge.of(12, "FIRST: how many STEPS (k NONE), or STEP k (NONE behind)");
        LeadPark x = thirties("");
        Checks.equal("the most steps", 58, x.first(0, 1, NONE));
        Checks.equal("the first", 1, x.first(0, 1, 0));
        Checks.equal("the last of the man", 1, x.first(0, 1, 28));
        Checks.equal("the first of the dog", 2, x.first(0, 1, 29));
        Checks.equal("the last", 2, x.first(0, 1, 57));
        Checks.equal("behind", NONE, x.first(0, 1, 58));
        Checks.equal("behind by more", NONE, x.first(0, 1, 59));
        Checks.equal("far behind", NONE, x.first(0, 1, Integer.MAX_VALUE));
        LeadPark one = Texts.parkOf("way 5 5;way 8 9");
        Checks.equal("no steps", 0, one.first(0, 1, NONE));
        Checks.equal("nor a first", NONE, one.first(0, 1, 0));
        LeadPark both = thirties("bar if man > dog or dog > man");
        Checks.equal("29 of both", 29, both.first(0, 1, NONE));
        Checks.equal("the last of both", 3, both.first(0, 1, 28));
        Checks.equal("behind both", NONE, both.first(0, 1, 29));

        Edge.of(12, "NONE without a WALK");
        LeadPark shut = park("way 0 0 1 1", "bar");
        Checks.equal("how many", NONE, shut.first(0, 0, NONE));
        Checks.equal("step 0", NONE, shut.first(0, 0, 0));
        Checks.equal("the end is shut", NONE, park("way 0 0 1 1", "bar if man+dog > 1").first(0, 0, NONE));

        Edge.of(12, "IllegalArgumentException: k is below NONE");
        Checks.illegal("-2", () -> x.first(0, 1, -2));
        Checks.illegal("the least", () -> x.first(0, 1, Integer.MIN_VALUE));
        Checks.illegal("also without a walk", () -> shut.first(0, 0, -2));

        Edge.of(12, "Of several exceptions the one told first is thrown");
        Checks.outOfBounds("no way and below NONE", () -> x.first(2, 0, -2));
        Checks.outOfBounds("no other and below NONE", () -> x.first(0, 2, -2));
    }

    private static void steps(String what, LeadPark x, int... due) {
        Checks.equal(what + ": how many", due.length, x.first(0, 1, NONE));
        for (int k = 0; k < due.length; k++) {
            Checks.equal(what + ": step " + k, due[k], x.first(0, 1, k));
        }
        Checks.equal(what + ": behind", NONE, x.first(0, 1, due.length));
    }

    private static void firstOrder() {
        Edge.of(12, "of WALKS with LEAST the first, STEP by STEP (1 ahead of 2, 2 ahead of 3)");
        String two = "way 0 0 0 0;way 0 0 0 0";
        steps("1 ahead of all", Texts.parkOf(two), 1, 2);
        steps("2 ahead of 3", park(two, "bar if man > dog"), 2, 1);
        steps("3, if no other", park(two, "bar if man > dog or dog > man"), 3);
        steps("1 ahead of 3", park(two, "bar if dog > man"), 1, 2);
        String three = "way 0 0 0 0 0 0;way 0 0 0 0 0 0";
        steps("1 is a dead end", park(three, "bar if man > 1 and dog < 2;bar if man > 0 and man < 2 and dog > 0 and dog < 2"),
                2, 2, 1, 1);
        steps("1 and 2 are dead ends", park(three, "bar if man > 1 and dog < 1;bar if dog > 1 and man < 1;"
                + "bar if man+dog > 1 and man+dog < 3 and mx < 0;bar if man+dog < 2 and man+dog > 0"), 3, 1, 2);
        steps("1 is too far", Texts.parkOf(line(0, 9, 9) + ";" + line(0, 9, 9)), 3, 1, 2);
        steps("1 is farther than 2", Texts.parkOf(line(0, 9) + ";" + line(0, 3, 9)), 2, 3);
        steps("1 and 2 are farther than 3", Texts.parkOf(line(0, 9) + ";" + line(0, 5, 9)), 3, 2);
        steps("by no more than LEAST", Texts.parkOf(line(0, 9, 0) + ";" + line(0, 5, 4, 0)), 3, 3, 2);
        steps("the man at his end", Texts.parkOf(line(0) + ";" + line(0, 5, 4)), 2, 2);
        steps("the dog at his end", Texts.parkOf(line(0, 5, 4) + ";" + line(0)), 1, 1);
    }

    // ---- promise 13

    private static void bars() {
        Edge.of(13, "of FIRST the first PLACE that is as FAR as LEAST: 100 times M and D");
        Checks.equal("the begin", 0, Texts.parkOf(line(0, 0) + ";" + line(9, 0)).bars(0, 1));
        Checks.equal("the begin of several", 0, Texts.parkOf(line(0, 9, 9) + ";" + line(9, 9, 0)).bars(0, 1));
        Checks.equal("the end", 202, Texts.parkOf(line(0, 0, 9) + ";" + line(5, 5, 0)).bars(0, 1));
        Checks.equal("ahead of the end", 200, Texts.parkOf(line(0, 0, 9) + ";" + line(0, 1, 0)).bars(0, 1));
        Checks.equal("no steps", 0, Texts.parkOf("way 5 5;way 8 9").bars(0, 1));
        Checks.equal("the first of two", 100, Texts.parkOf(line(0, 9, 0, 9) + ";" + line(0, 0)).bars(0, 1));
        Checks.equal("the first of five", 1, Texts.parkOf(line(0, 8, 0, 8, 4) + ";" + line(0, 4)).bars(0, 1));
        LeadPark last = Texts.parkOf("way " + Texts.repeated("0 0", " ", 29) + " 9 0;way "
                + Texts.repeated("0 0", " ", 29) + " 0 9");
        Checks.equal("the greatest M and D", 2929, last.bars(0, 1));
        Checks.equal("is as far as", 162, last.least(0, 1));
        LeadPark man = Texts.parkOf("way " + Texts.repeated("0 0", " ", 29) + " 9 0;way " + THIRTY);
        Checks.equal("M alone", 2900, man.bars(0, 1));
        Checks.equal("D alone, behind the man", 2929, man.bars(1, 0));
        LeadPark both = park("way " + Texts.repeated("0 0", " ", 29) + " 9 0;way " + THIRTY, "bar if man > dog");
        Checks.equal("by the first walk that is open", 2929, both.bars(0, 1));

        Edge.of(13, "BARS; NONE.");
        Checks.equal("without a walk", NONE, park("way 0 0 1 1", "bar").bars(0, 0));
        Checks.equal("0 is not none", 0, Texts.parkOf("way 0 0 1 1").bars(0, 0));
    }

    // ---- promise 14

    private static void judge() {
        LeadPark x = Texts.parkOf(line(0, 3, 0) + ";" + line(0, 0, 3));
        Edge.of(14, "or leads to a PLACE that is SHUT or more FAR than the LEAD");
        Checks.equal("just as far", NONE, Texts.judge(x, 0, 1, 9, "1"));
        Checks.equal("too far by one", 0, Texts.judge(x, 0, 1, 8, "1"));
        Checks.equal("the second is too far", 1, Texts.judge(x, 0, 1, 8, "21"));
        Checks.equal("the third is too far", 2, Texts.judge(x, 0, 1, 8, "2312"));
        Checks.equal("a lead of 0", 1, Texts.judge(x, 0, 1, 0, "212"));
        Checks.equal("the longest lead", NONE, Texts.judge(x, 0, 1, Integer.MAX_VALUE, "1122"));
        Texts.law(x, "bar if man > 0 and dog < 1");
        Checks.equal("shut", 0, Texts.judge(x, 0, 1, Integer.MAX_VALUE, "1122"));
        Checks.equal("shut as the third", NONE, Texts.judge(x, 0, 1, Integer.MAX_VALUE, "2112"));
        Texts.law(x, "bar if man > 1 and dog > 1");
        Checks.equal("the end is shut", 3, Texts.judge(x, 0, 1, Integer.MAX_VALUE, "1122"));
        Texts.law(x, "");
        Texts.park(x, "wall 3 0 3 9");
        Checks.equal("by a wall", 0, Texts.judge(x, 0, 1, Integer.MAX_VALUE, "1122"));

        Edge.of(14, "A LEAD is told as its square.");
        LeadPark square = Texts.parkOf("way 0 0;way 3 4");
        Checks.equal("5 is not 5 long", -2, Texts.judge(square, 0, 1, 5, ""));
        Checks.equal("25 is", NONE, Texts.judge(square, 0, 1, 25, ""));

        LeadPark y = Texts.parkOf(line(0, 0, 0) + ";" + line(0, 0));
        Edge.of(14, "the first one (from 0 on) that cannot be gone (a WAY is at its end)");
        Checks.equal("the man at once", 2, Texts.judge(y, 0, 1, 0, "111"));
        Checks.equal("the dog", 1, Texts.judge(y, 0, 1, 0, "22"));
        Checks.equal("both, the dog at his end", 1, Texts.judge(y, 0, 1, 0, "23"));
        Checks.equal("both, the man at his end", 2, Texts.judge(y, 0, 1, 0, "113"));
        Checks.equal("both at their ends", 3, Texts.judge(y, 0, 1, 0, "1123"));
        Checks.equal("a way of one corner", 0, Texts.judge(Texts.parkOf("way 1 1"), 0, 0, 0, "3"));
        LeadPark z = thirties("");
        Checks.equal("400 steps", 29, Texts.judge(z, 0, 1, 0, Texts.repeated("1", "", 400)));
        Checks.equal("one step too many", 58, Texts.judge(z, 0, 1, 0, Texts.repeated("12", "", 29) + "3"));

        Edge.of(14, "- 2, if the begin itself is so");
        LeadPark w = Texts.parkOf("way 0 0 0 0;way 3 4 0 0");
        Checks.equal("too far by one", -2, Texts.judge(w, 0, 1, 24, "2"));
        Checks.equal("just as far", NONE, Texts.judge(w, 0, 1, 25, "2"));
        Checks.equal("no steps", -2, Texts.judge(w, 0, 1, 24, ""));
        Checks.equal("and steps that cannot be gone", -2, Texts.judge(w, 0, 1, 0, "222"));
        Texts.law(w, "bar if man+dog < 1");
        Checks.equal("shut", -2, Texts.judge(w, 0, 1, Integer.MAX_VALUE, ""));

        Edge.of(14, "none, if all can be gone (they need not come to the ends)");
        Checks.equal("no steps", NONE, Texts.judge(z, 0, 1, 0, ""));
        Checks.equal("one", NONE, Texts.judge(z, 0, 1, 0, "3"));
        Checks.equal("all 58", NONE, Texts.judge(z, 0, 1, 0, Texts.repeated("12", "", 29)));
        Checks.equal("all 29", NONE, Texts.judge(z, 0, 1, 0, Texts.repeated("3", "", 29)));
    }

    private static void judgeRefuses() {
        LeadPark x = Texts.parkOf("way 0 0 9 9");
        Edge.of(14, "(of each STEP a byte, 49 to 51)");
        for (int wrong : new int[] {0, 3, 32, 48, 52, 57, 127, 128, 49 + 128, 51 + 128, 255}) {
            Checks.illegal("a byte " + wrong, () -> Texts.judge(x, 0, 0, 0, "" + (char) wrong));
            Checks.illegal("a second byte " + wrong, () -> Texts.judge(x, 0, 0, 0, "3" + (char) wrong));
        }
        Checks.illegal("behind a step that cannot be gone", () -> Texts.judge(x, 0, 0, 0, "1114"));
        Checks.illegal("the 400th", () -> Texts.judge(x, 0, 0, 0, Texts.repeated("3", "", 399) + "4"));
        Checks.equal("49", NONE, Texts.judge(x, 0, 0, 200, "1"));
        Checks.equal("50", NONE, Texts.judge(x, 0, 0, 200, "2"));
        Checks.equal("51", NONE, Texts.judge(x, 0, 0, 200, "3"));

        Edge.of(14, "IllegalArgumentException: the TAPE is not that, or the LEAD is below 0");
        Checks.illegal("-1", () -> Texts.judge(x, 0, 0, -1, "3"));
        Checks.illegal("the least", () -> Texts.judge(x, 0, 0, Integer.MIN_VALUE, ""));
        Checks.equal("0", NONE, Texts.judge(x, 0, 0, 0, "3"));
        Texts.law(x, "bar");
        Checks.illegal("also if the begin is shut", () -> Texts.judge(x, 0, 0, 0, "4"));

        Edge.of(14, "Of several exceptions the one told first is thrown");
        Checks.outOfBounds("no way, no lead, no steps", () -> Texts.judge(x, 1, 0, -1, "4"));
        Checks.outOfBounds("no other", () -> Texts.judge(x, 0, 1, -1, "4"));

        Edge.of(14, "Uses the TAPE up: JUDGED");
        Texts.judge(x, 0, 0, 0, "3");
        Checks.isFalse("by an answer", x.end(1));
        Checks.illegal("wrong", () -> Texts.judge(x, 0, 0, 0, "4"));
        Checks.isFalse("by a wrong one", x.end(1));
        Checks.outOfBounds("no way", () -> Texts.judge(x, 0, -1, 0, "3"));
        Checks.isFalse("by no way", x.end(1));
        Checks.equal("20 bytes come at its begin", 20, x.feed(0, 0, 0, 0, 0));
    }

    // ---- promise 15

    private static void parts() {
        Edge.of(15, "PARTS N (1 to 8)");
        LeadPark x = Texts.parkOf("way 0 0 10 0;way 0 3 10 3;" + line(0, 8, 16) + ";"
                + line(0, 1, 2, 3, 4, 5, 6, 7, 8, 9, 10, 11, 12, 13, 14, 15, 16) + ";way 5 5;way 8 9");
        for (int n = 1; n <= 8; n++) {
            Checks.equal("side by side " + n, 9 * n * n, x.parts(0, 1, n));
            Checks.equal("8 at once by one at once " + n, 16, x.parts(2, 3, n));
            Checks.equal("the other way round " + n, 16, x.parts(3, 2, n));
            Checks.equal("one corner each " + n, 25 * n * n, x.parts(4, 5, n));
            Checks.equal("one corner " + n, 50 * n * n, x.parts(0, 4, n));
        }

        Edge.of(15, "IllegalArgumentException: N is none");
        for (int n : new int[] {0, 9, -1, Integer.MIN_VALUE, Integer.MAX_VALUE}) {
            Checks.illegal("N " + n, () -> x.parts(0, 1, n));
        }
        Edge.of(15, "Of several exceptions the one told first is thrown");
        Checks.outOfBounds("no way and no N", () -> x.parts(6, 0, 0));
        Checks.outOfBounds("no other and no N", () -> x.parts(0, 6, 9));

        Edge.of(15, "(all 1 by N of an edge apart)");
        LeadPark y = Texts.parkOf("way 0 0 9 3 0 0;way 0 0 3 1 6 2 9 3 6 2 3 1 0 0");
        for (int n = 1; n <= 8; n++) {
            Checks.equal("three of the dog's edges to one of the man's " + n, 10, y.parts(0, 1, n));
            Checks.equal("the other way round " + n, 10, y.parts(1, 0, n));
            Checks.equal("from point to point side by side " + n, 0, y.parts(1, 1, n));
        }
        LeadPark v = Texts.parkOf(line(0, 8) + ";" + line(1));
        Checks.equal("the last part ends at the corner", 49 * 9, v.parts(0, 1, 3));
        Checks.equal("the first begins at the corner", 49 * 9, Texts.parkOf(line(8, 0) + ";" + line(1)).parts(0, 1, 3));

        Edge.of(15, "LEAST in N times N parts (the squares of N times as long)");
        LeadPark z = Texts.parkOf("way 0 0 0 0;way 999 999 999 999");
        Checks.equal("the greatest", 1996002L * 64, z.parts(0, 1, 8));
        LeadPark w = Texts.parkOf("way " + Texts.repeated("0 0 999 999", " ", 15));
        Texts.park(w, "way " + Texts.repeated("999 999 0 0", " ", 15));
        Checks.equal("30 corners, the begins apart", 1996002L * 64, w.parts(0, 1, 8));
        Checks.equal("30 corners, together", 0, w.parts(0, 0, 8));
        Checks.equal("30 corners, together by 7", 0, w.parts(1, 1, 7));

        Edge.of(15, "THE LAW and WALLS not looked at");
        Texts.law(z, "bar");
        Texts.park(z, "wall 0 0 999 999");
        Checks.equal("with both", 1996002L, z.parts(0, 1, 1));
    }

    // ---- promise 16

    private static void back() {
        Edge.of(16, "in each STEP each of both goes one CORNER on, one back, or stands");
        LeadPark x = Texts.parkOf(line(0, 100, 0, 100) + ";" + line(0, 100));
        Checks.equal("the dog goes back", 0, x.back(0, 1));
        Checks.equal("the man goes back", 0, x.back(1, 0));
        Checks.equal("none goes back", 0, x.back(0, 0));
        Checks.equal("a dog that stands", 100, Texts.parkOf(line(0, 10) + ";" + line(0)).back(0, 1));
        Checks.equal("one corner each", 25, Texts.parkOf("way 5 5;way 8 9").back(0, 1));
        LeadPark y = Texts.parkOf(line(0, 100, 0) + ";" + line(0, 50, 100, 50));
        Checks.equal("the end counts", 2500, y.back(0, 1));
        Checks.equal("not beyond the last corner", 10000, Texts.parkOf(line(0, 100) + ";" + line(0, 0)).back(0, 1));
        Checks.equal("no further than that", 1996002, Texts.parkOf("way 0 0;way 999 999").back(0, 1));

        Edge.of(16, "LEAST by these (no PLACE is SHUT)");
        String two = "way 0 0 0 0;way 0 0 0 0";
        Checks.equal("the begin", NONE, park(two, "bar if man+dog < 1").back(0, 1));
        Checks.equal("the end", NONE, park(two, "bar if man+dog > 1").back(0, 1));
        Checks.equal("all between", 0, park(two, "bar if man+dog > 0 and man+dog < 2").back(0, 1));
        Checks.equal("all", NONE, park("way 5 5", "bar").back(0, 0));
        Checks.equal("a band of two", NONE, thirties("bar if man+dog > 28 and man+dog < 31").back(0, 1));
        Checks.equal("a band of one", 0, thirties("bar if man+dog > 28 and man+dog < 30").back(0, 1));
        Checks.equal("not round the edge", NONE, thirties(NOT_ROUND_THE_EDGE).back(0, 1));
        Checks.equal("nor round the other", NONE, thirties(NOT_ROUND_THE_OTHER_EDGE).back(0, 1));
        Checks.equal("nor from the first corner to the last", NONE, thirties("bar if man > 0 and man < 2").back(0, 1));
        Checks.equal("nor does the dog", NONE, thirties("bar if dog > 0 and dog < 2").back(0, 1));
    }

    private static void backMazes() {
        Edge.of(16, "BACK: LEAST; NONE.");
        int[] down = {0, 1, 2, 3, 14, 24, 33, 22, 31, 40, 51, 52, 53, 54};
        int[] up = {0, 10, 20, 31, 22, 12, 3, 4, 15, 25, 35, 44, 43, 52, 63, 64, 65};
        mazeBack(6, 5, down);
        mazeBack(7, 6, up);

        Edge.of(16, "each of both goes one CORNER on, one back, or stands");
        StringBuilder man = new StringBuilder("way");
        for (int m = 0; m < 29; m++) {
            man.append(m % 4 == 1 ? " 0 1" : m % 4 == 3 ? " 0 2" : " 0 0");
        }
        String law = "bar if my > 0 and my < 2 and dog < 29;bar if my > 1 and dog > 0";
        LeadPark snake = park(man + ";way " + THIRTY, law);
        Checks.equal("to and fro through all rows", 4, snake.back(0, 1));
        Checks.equal("which none can go without going back", NONE, snake.least(0, 1));
        LeadPark cut = park(man + ";way " + THIRTY, law + ";bar if man > 13 and man < 15 and dog > 14 and dog < 16");
        Checks.equal("cut in its midst", NONE, cut.back(0, 1));
        LeadPark zigzag = zigzag("");
        Checks.equal("zigzag to and fro", 9, zigzag.back(0, 1));
        Checks.equal("as the only way", NONE, zigzag(";bar if man > 11 and man < 13 and dog > 13 and dog < 17").back(0, 1));
        String turned = law.replace("my", "dy").replace("dog", "man");
        LeadPark other = park(man + ";way " + THIRTY, turned);
        Checks.equal("the man to and fro", 4, other.back(1, 0));
    }

    /**
     * Nine times two rows through which one can go by turns alone (the man at X 0 by even CORNERS of the dog, at
     * X 1 by odd ones), and between them a row that is open at its end (X 2) or at its begin (X 3).
     */
    private static LeadPark zigzag(String more) {
        StringBuilder man = new StringBuilder("way");
        for (int m = 0; m < 26; m++) {
            man.append(' ').append(m % 3 < 2 ? m % 3 : 2 + m / 3 % 2).append(" 0");
        }
        LeadPark x = Texts.parkOf(man.toString());
        Texts.park(x, "way " + Texts.repeated("0 0 1 0", " ", 15));
        Texts.law(x, "bar if mx < 1 and dx > 0;bar if mx > 0 and mx < 2 and dx < 1;bar if mx > 1 and mx < 3 and dog < 29;"
                + "bar if mx > 2 and dog > 0" + more);
        return x;
    }

    /** Each PLACE of the maze is on the only walk through it. */
    private static void mazeBack(int rows, int columns, int... open) {
        Checks.equal("a maze", mazeFar(open), maze(rows, columns, NONE, open).back(0, 1));
        for (int k = 0; k < open.length; k++) {
            Checks.equal("a maze without " + open[k], NONE, maze(rows, columns, open[k], open).back(0, 1));
        }
    }

    // ---- promise 17

    private static void ring() {
        Edge.of(17, "the last CORNER is followed by the first one");
        LeadPark x = Texts.parkOf(line(0, 9) + ";" + line(0, 9, 0));
        Checks.equal("there and back", 0, x.ring(0, 0, false));
        Checks.equal("as by three", 0, x.ring(0, 1, false));
        Checks.equal("three as by two", 0, x.ring(1, 0, false));
        Checks.equal("the way home counts", 0, Texts.parkOf(line(5, 0, 9) + ";" + line(5, 0, 9, 9)).ring(0, 1, false));

        Edge.of(17, "the man goes from his CORNER 0 round to it again");
        LeadPark own = park(line(0, 9, 0, 9), "bar if man < 1");
        Checks.equal("from no other", NONE, own.ring(0, 0, false));
        Texts.law(own, "bar if man < 1 and dog < 3");
        Checks.equal("with the dog there", 3, own.ring(0, 0, true));
        Checks.equal("to 0 again by the lead", 81, own.ring(0, 0, false));
        Checks.equal("the way to 0 is one, too", 81, Texts.parkOf(line(0, 0) + ";" + line(9, 9)).ring(0, 1, false));

        Edge.of(17, "the dog from any CORNER B of his round to it");
        StringBuilder man = new StringBuilder("way");
        StringBuilder dog = new StringBuilder("way");
        for (int k = 0; k < 30; k++) {
            man.append(' ').append(33 * k).append(" 0");
            dog.append(' ').append(33 * ((k + 1) % 30)).append(" 0");
        }
        LeadPark y = Texts.parkOf(man.toString());
        Texts.park(y, dog.toString());
        Checks.equal("by the last corner", 0, y.ring(0, 1, false));
        Checks.equal("it is the 30th", 29, y.ring(0, 1, true));
        Checks.equal("the other way round by the second", 0, y.ring(1, 0, false));
        Checks.equal("it is", 1, y.ring(1, 0, true));

        Edge.of(17, "LEAST by any B; the first such B");
        LeadPark z = Texts.parkOf(line(0, 0, 0, 0) + ";" + line(0, 9, 0, 9));
        Checks.equal("the first of all", 0, z.ring(0, 0, true));
        Checks.equal("the first of two", 0, z.ring(1, 1, true));
        Texts.law(z, "bar if man < 1 and dog < 1");
        Checks.equal("the second of two", 2, z.ring(1, 1, true));
        Checks.equal("is as short", 0, z.ring(1, 1, false));
        Texts.law(z, "bar if man < 1 and dog < 3");
        Checks.equal("the last", 3, z.ring(1, 1, true));
        Checks.equal("is longer", 81, z.ring(1, 1, false));

        Edge.of(17, "no PLACE is SHUT");
        Texts.law(z, "bar if man < 1 and dog < 4");
        Checks.equal("no begin", NONE, z.ring(1, 1, false));
        Checks.equal("no B", NONE, z.ring(1, 1, true));
        Texts.law(z, "bar if man > 1 and man < 3");
        Checks.equal("a corner that all rounds pass", NONE, z.ring(0, 1, false));
        Checks.equal("no B by it", NONE, z.ring(0, 1, true));
        Texts.law(z, "bar if dog > 2");
        Checks.equal("the dog's last", NONE, z.ring(0, 1, true));

        Edge.of(17, "LEAST (begin false), or B; NONE");
        Checks.equal("least", 0, x.ring(0, 0, false));
        Checks.equal("B", 0, x.ring(0, 0, true));
        LeadPark w = park("way 5 5", "bar");
        Checks.equal("no least", NONE, w.ring(0, 0, false));
        Checks.equal("no B", NONE, w.ring(0, 0, true));
    }

    private static void ringOnce() {
        Edge.of(17, "on a WAY of one CORNER one stands");
        LeadPark x = Texts.parkOf("way 5 5;way 8 9;way 5 5 5 5;" + line(5, 9, 0));
        Checks.equal("both stand", 25, x.ring(0, 1, false));
        Checks.equal("by 0", 0, x.ring(0, 1, true));
        Checks.equal("the man stands", 0, x.ring(0, 2, false));
        Checks.equal("the dog stands", 0, x.ring(2, 0, false));
        Checks.equal("and the man goes round", 50, x.ring(3, 0, false));
        Checks.equal("or the dog does", 50, x.ring(0, 3, false));
        Texts.law(x, "bar if man > 0 or dog > 0");
        Checks.equal("one corner alone is open", 25, x.ring(0, 1, false));
        Checks.equal("so no round is", NONE, x.ring(0, 2, false));
        Checks.equal("nor the man's", NONE, x.ring(2, 0, false));

        Edge.of(17, "each round once, never back");
        LeadPark y = Texts.parkOf(line(0, 9) + ";" + line(0, 9, 0, 9) + ";" + line(0));
        Checks.equal("the dog not twice", 81, y.ring(1, 0, false));
        Checks.equal("the man not twice", 81, y.ring(0, 1, false));
        Checks.equal("the dog goes", 81, y.ring(2, 0, false));
        Checks.equal("the man goes", 81, y.ring(0, 2, false));
        LeadPark z = thirties("bar if man > 0 and dog > 0 and man < 29 and dog < 29");
        Checks.equal("30 corners", 0, z.ring(0, 1, false));
        Texts.law(z, "bar if man > 13 and man < 16 and dog < 29;bar if man > 13 and man < 16 and dog > 28");
        Checks.equal("30 corners, two of them shut", NONE, z.ring(0, 1, false));
    }

    // ---- promises 18 and 19

    private static void dogs() {
        Edge.of(18, "the greatest FAR of the man to either dog");
        LeadPark x = Texts.parkOf(line(5) + ";" + line(0) + ";" + line(9) + ";" + line(5, 5));
        Checks.equal("one corner each, the one", 25, x.dogs(0, 1, 2));
        Checks.equal("the other", 25, x.dogs(0, 2, 1));
        Checks.equal("dogs may be far apart", 81, x.dogs(1, 0, 2));
        Checks.equal("one way three times", 0, x.dogs(3, 3, 3));
        Checks.equal("the greatest", 1996002, Texts.parkOf("way 0 0;way 999 999;way 0 0").dogs(0, 2, 1));

        Edge.of(18, "in each STEP some of the three go on (at least one)");
        LeadPark y = Texts.parkOf(line(0, 90, 0, 90) + ";" + line(0, 90, 0, 90) + ";" + line(0) + ";" + line(0, 0, 90, 0, 90, 90));
        Checks.equal("all at once", 0, y.dogs(0, 1, 1));
        Checks.equal("the man first stands", 0, y.dogs(0, 1, 3));
        Checks.equal("either one", 0, y.dogs(0, 3, 1));
        Checks.equal("a dog that stands", 8100, y.dogs(0, 1, 2));
        Checks.equal("the man stands", 8100, y.dogs(2, 1, 1));
        LeadPark pair = park(line(0, 0) + ";" + line(5, 5) + ";" + line(0),
                "bar if dx > 4 and man < 1 and dog > 0;bar if dx > 4 and man > 0 and dog < 1");
        Checks.equal("the man and the one at once", 25, pair.dogs(0, 1, 2));
        Checks.equal("the man and the other at once", 25, pair.dogs(0, 2, 1));
        LeadPark long3 = thirties("bar if man > dog or dog > man");
        Checks.equal("29 steps of all three", 0, long3.dogs(0, 1, 0));
        Checks.equal("dogs far ahead", 0, thirties("bar if man > 0 and dog < 29").dogs(0, 1, 0));
        Checks.equal("the man far ahead", 0, thirties("bar if dog > 0 and man < 29").dogs(0, 1, 0));

        Edge.of(18, "in PLACES that are not SHUT (by either dog)");
        LeadPark z = Texts.parkOf("way 0 0 0 0;way 1 0 1 0;way 2 0 2 0");
        String[] shuts = {"man+dog < 1", "man+dog > 1", "man > 0 and dog > 0", "man < 1 and dog < 1"};
        for (String shut : shuts) {
            for (int dx = 1; dx <= 2; dx++) {
                Texts.law(z, "bar if dx > " + (dx - 1) + " and dx < " + (dx + 1) + " and " + shut);
                Checks.equal(shut + " by " + dx, NONE, z.dogs(0, 1, 2));
                Checks.equal(shut + " by " + dx + ", turned", NONE, z.dogs(0, 2, 1));
            }
        }
        Texts.law(z, "bar if mx > 0");
        Checks.equal("not by the dogs with one another", 4, z.dogs(0, 1, 2));
        Checks.equal("a wall", NONE, Texts.parkOf("way 0 0;way 1 0;way 9 9;wall 5 5 6 6").dogs(0, 1, 2));
        Checks.equal("not by a wall between the dogs", 50, Texts.parkOf("way 5 5;way 0 0;way 9 0;wall 4 0 4 1").dogs(0, 1, 2));
        Checks.equal("a band of two", NONE, thirties("bar if man+dog > 28 and man+dog < 31").dogs(0, 1, 0));
        Checks.equal("not round the edge", NONE, thirties(NOT_ROUND_THE_EDGE).dogs(0, 1, 0));
    }

    private static void three() {
        Edge.of(19, "likewise, and the FAR of both dogs counts, too");
        LeadPark x = Texts.parkOf(line(5) + ";" + line(0) + ";" + line(9) + ";" + line(0, 9));
        Checks.equal("one corner each", 81, x.three(0, 1, 2));
        Checks.equal("either one", 81, x.three(0, 2, 1));
        Checks.equal("both dogs at once", 25, x.three(0, 3, 3));
        Checks.equal("the man and the one at once", 25, x.three(3, 3, 0));
        Checks.equal("the man and the other at once", 25, x.three(3, 0, 3));
        Checks.equal("all at once", 0, x.three(3, 3, 3));
        Checks.equal("the man alone", 81, x.three(3, 1, 1));
        Checks.equal("the one alone", 81, x.three(1, 3, 1));
        Checks.equal("the other alone", 81, x.three(1, 1, 3));
        Checks.equal("the greatest", 1996002, Texts.parkOf("way 0 0;way 999 999;way 0 0").three(0, 2, 1));
        Checks.equal("the dogs alone are far", 1996002, Texts.parkOf("way 500 500;way 999 999;way 0 0").three(0, 2, 1));
        LeadPark y = Texts.parkOf("way " + Texts.repeated("0 0 90 90", " ", 15));
        Checks.equal("30 corners", 0, y.three(0, 0, 0));
        Texts.park(y, "way " + Texts.repeated("0 0 90 90", " ", 14) + " 0 0");
        Checks.equal("29 and 30", 16200, y.three(0, 1, 0));

        Edge.of(19, "but SHUT is not looked at");
        Texts.law(x, "bar");
        Texts.park(x, "wall 0 0 9 0");
        Checks.equal("with a law and a wall", 81, x.three(0, 1, 2));
        Checks.equal("there are no dogs by them", NONE, x.dogs(0, 1, 2));
    }

    // ---- promise 20

    private static void drag() {
        Edge.of(20, "FAR of all its PLACES together (the begin, too)");
        Checks.equal("the begin alone", 25, Texts.parkOf("way 5 5;way 8 9").drag(0, 1));
        Checks.equal("nothing", 0, Texts.parkOf("way 5 5").drag(0, 0));
        Checks.equal("begin and end", 50, Texts.parkOf("way 5 5 5 5;way 8 9 8 9").drag(0, 1));
        Checks.equal("the greatest begin", 1996002, Texts.parkOf("way 0 0;way 999 999").drag(0, 1));
        LeadPark x = Texts.parkOf("way " + THIRTY);
        Texts.park(x, "way " + Texts.repeated("999 999", " ", 30));
        Checks.equal("30 places", 30L * 1996002, x.drag(0, 1));
        Texts.law(x, "bar if man < 29 and dog > 0");
        Checks.equal("58 places: round the corner both go at once", 58L * 1996002, x.drag(0, 1));

        Edge.of(20, "the least of all WALKS; none");
        Checks.equal("both at once", 0, Texts.parkOf(line(0, 9, 0)).drag(0, 0));
        LeadPark y = Texts.parkOf(line(0, 2, 2, 2, 2, 2, 2, 2, 2, 2, 3) + ";" + line(0, 5, 2));
        Checks.equal("by a longer lead less is dragged", 10, y.drag(0, 1));
        Checks.equal("than by the shortest one", 4, y.least(0, 1));
        LeadPark z = Texts.parkOf(line(0, 5, 5, 5, 5, 10) + ";" + line(0, 10));
        Checks.equal("how few places", 25 * 4, z.drag(0, 1));
        LeadPark w = Texts.parkOf(line(0, 0, 0, 0, 0, 0, 0) + ";" + line(4, 4, 4, 5, 4, 4, 4));
        Checks.equal("not by the corner that is nearer by waiting", 6 * 16 + 25, w.drag(0, 1));

        Edge.of(20, "DRAG; NONE.");
        String two = "way 0 0 0 0;way 3 0 3 0";
        Checks.equal("the begin is shut", NONE, park(two, "bar if man+dog < 1").drag(0, 1));
        Checks.equal("the end is shut", NONE, park(two, "bar if man+dog > 1").drag(0, 1));
        Checks.equal("all between", 18, park(two, "bar if man+dog > 0 and man+dog < 2").drag(0, 1));
        Checks.equal("all", NONE, park("way 5 5", "bar").drag(0, 0));
        Checks.equal("a band of two", NONE, thirties("bar if man+dog > 28 and man+dog < 31").drag(0, 1));
        Checks.equal("not round the edge", NONE, thirties(NOT_ROUND_THE_EDGE).drag(0, 1));
    }

    // ---- no such WAY

    private static void noSuchWay() {
        LeadPark x = Texts.parkOf(Texts.repeated("way 1 1", ";", 12));
        int[] bads = {-1, 12, 13, 32, Integer.MIN_VALUE, Integer.MAX_VALUE};
        for (int promise = 11; promise <= 20; promise++) {
            Edge.of(promise, "IndexOutOfBoundsException: there is no such WAY, CORNER, MARK");
            int call = promise;
            for (int bad : bads) {
                Checks.outOfBounds("way " + bad, asked(call, x, bad, 0, 0));
                Checks.outOfBounds("other " + bad, asked(call, x, 0, bad, 0));
                if (call == 18 || call == 19) {
                    Checks.outOfBounds("third " + bad, asked(call, x, 0, 0, bad));
                }
            }
            Checks.outOfBounds("a new park", asked(call, new LeadPark(), 0, 0, 0));
            long due = call == 12 || call == 14 ? NONE : 0;
            Checks.equal("the 12th is there", due, asked(call, x, 11, 11, 11).getAsLong());
        }
    }

    private static void largest() {
        LeadPark x = Texts.largest();
        for (int promise = 11; promise <= 20; promise++) {
            Edge.of(promise, "1 to 30 CORNERS each (numbered from 0 on)");
            long due = promise == 14 ? NONE : promise == 12 ? 1 : 0;
            Checks.equal("the 12th way of 30", due, asked(promise, x, 11, 11, 11).getAsLong());
            Checks.equal("as the man's", due, asked(promise, x, 11, 0, 0).getAsLong());
            Checks.equal("as the dog's", due, asked(promise, x, 0, 11, 0).getAsLong());
            Checks.equal("as the other dog's", due, asked(promise, x, 0, 0, 11).getAsLong());
        }
        Texts.law(x, "bar if man+dog > 57");
        for (int promise : new int[] {11, 12, 13, 16, 18, 20}) {
            Edge.of(promise, "1 to 30 CORNERS each (numbered from 0 on)");
            Checks.equal("the last place of all is shut", NONE, asked(promise, x, 11, 11, 11).getAsLong());
        }
    }

    /** What is asked of one object, again and again, is answered as by a new one. */
    private static void manyCalls() {
        String text = line(0, 9, 3, 0) + ";" + line(0, 1) + ";" + line(50, 9, 50) + ";" + line(70) + ";" + line(1, 0, 1, 0, 0);
        String law = "bar if man > 1 and dog > 2 and far > 2000";
        LeadPark x = park(text, law);
        for (int promise = 11; promise <= 20; promise++) {
            Edge.of(promise, "An object is used for at most 512 calls after it has been made");
            for (int pair = 0; pair < 25; pair++) {
                int man = pair / 5;
                int dog = pair % 5;
                long due = asked(promise, park(text, law), man, dog, 0).getAsLong();
                Checks.equal(man + " with " + dog, due, asked(promise, x, man, dog, 0).getAsLong());
            }
        }
    }

    private static LongSupplier asked(int promise, LeadPark x, int way, int one, int other) {
        switch (promise) {
            case 11:
                return () -> x.least(way, one);
            case 12:
                return () -> x.first(way, one, 0);
            case 13:
                return () -> x.bars(way, one);
            case 14:
                return () -> x.judge(way, one, 0);
            case 15:
                return () -> x.parts(way, one, 1);
            case 16:
                return () -> x.back(way, one);
            case 17:
                return () -> x.ring(way, one, true);
            case 18:
                return () -> x.dogs(way, one, other);
            case 19:
                return () -> x.three(way, one, other);
            default:
                return () -> x.drag(way, one);
        }
    }
}
