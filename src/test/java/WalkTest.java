/** Promises 11 to 20: WALKS and their kin. */
public final class WalkTest {
    private static final int NONE = LeadPark.NONE;

    public static void main(String[] args) {
        promise11();
        promise12();
        promise13();
        promise14();
        promise14Wrong();
        promise15();
        promise16();
        promise17();
        promise18();
        promise19();
        promise20();
        greatest();
        Checks.finish();
    }

    private static void promise11() {
        LeadPark x = Texts.parkOf("way 0 0 10 0 20 0;way 0 3 20 3;way 7 7");
        Checks.equal("one has to be 10 off", 109, x.least(0, 1));
        Checks.equal("one way", 0, x.least(0, 0));
        Checks.equal("a dog that stands", 218, x.least(0, 2));
        Checks.equal("both stand", 0, x.least(2, 2));
        Texts.law(x, "bar if man > 0 and man < 2 and dog < 1");
        Checks.equal("by the other", 109, x.least(0, 1));
        Texts.law(x, "bar if mx > 9 and mx < 11");
        Checks.equal("none", NONE, x.least(0, 1));
        Checks.equal("but the other way round", 109, x.least(1, 0));
        Texts.law(x, "bar if man + dog < 1");
        Checks.equal("the begin is shut", NONE, x.least(0, 1));
        Texts.law(x, "bar if man + dog > 2");
        Checks.equal("the end is shut", NONE, x.least(0, 1));
        Checks.outOfBounds("way", () -> x.least(3, 0));
        Checks.outOfBounds("other", () -> x.least(0, -1));
        LeadPark y = Texts.parkOf("way 0 0 0 20;way 10 0 10 20;wall 5 5 5 15");
        Checks.equal("a walk without the wall", 100, y.least(0, 1));
        Texts.park(y, "wall 5 0 5 1");
        Checks.equal("and with it", NONE, y.least(0, 1));
    }

    private static void promise12() {
        LeadPark x = Texts.parkOf("way 0 0 1 0 2 0;way 0 0 1 0 2 0");
        Checks.equal("all at once", 2, x.first(0, 1, NONE));
        Checks.equal("both", 3, x.first(0, 1, 0));
        Checks.equal("behind", NONE, x.first(0, 1, 2));
        Checks.equal("far behind", NONE, x.first(0, 1, Integer.MAX_VALUE));
        LeadPark y = Texts.parkOf("way 0 0 1 0 2 0;way 500 0 0 0 500 0");
        Checks.equal("man ahead of dog", 4, y.first(0, 1, NONE));
        int[] due = {1, 1, 2, 2};
        for (int k = 0; k < due.length; k++) {
            Checks.equal("step " + k, due[k], y.first(0, 1, k));
        }
        Texts.law(y, "bar if man > 0 and dog < 1; bar if man < 2 and dog > 1");
        int[] barred = {2, 1, 1, 2};
        for (int k = 0; k < barred.length; k++) {
            Checks.equal("barred step " + k, barred[k], y.first(0, 1, k));
        }
        Texts.law(y, "bar if man > 1 and dog < 1; bar if man < 2 and dog > 1; bar if man < 1 and dog > 0; bar if man > 0 and dog < 1");
        Checks.equal("both at once", 3, y.first(0, 1, 0));
        Checks.equal("and so many", 3, y.first(0, 1, NONE));
        Texts.law(y, "bar");
        Checks.equal("no walk: how many", NONE, y.first(0, 1, NONE));
        Checks.equal("no walk: step", NONE, y.first(0, 1, 0));
        Checks.illegal("below NONE", () -> y.first(0, 1, -2));
        Checks.outOfBounds("told first", () -> y.first(0, 2, -2));
        Checks.outOfBounds("way", () -> y.first(-1, 0, 0));
        LeadPark z = Texts.parkOf("way 5 5;way 6 6");
        Checks.equal("no steps", 0, z.first(0, 1, NONE));
        Checks.equal("no step 0", NONE, z.first(0, 1, 0));
    }

    private static void promise13() {
        LeadPark x = Texts.parkOf("way 0 0 1 0 2 0;way 500 0 0 0 500 0");
        Checks.equal("the begin", 0, x.bars(0, 1));
        LeadPark y = Texts.parkOf("way 0 0 0 9 0 0;way 0 0 0 0 0 0");
        Checks.equal("the man at 1", 100, y.bars(0, 1));
        Checks.equal("the dog at 1, when the man is at his end", 201, y.bars(1, 0));
        LeadPark z = Texts.parkOf("way 5 5;way 6 6;way 5 5 5 5 5 5 5 5 5 5 5 5 5 5 5 5 5 5 5 5 5 5 5 9");
        Checks.equal("no steps", 0, z.bars(0, 1));
        Checks.equal("the end", 11, z.bars(0, 2));
        Checks.equal("the end of the man", 1100, z.bars(2, 0));
        Texts.law(z, "bar");
        Checks.equal("none", NONE, z.bars(0, 1));
        Checks.outOfBounds("way", () -> z.bars(3, 1));
        Checks.outOfBounds("other", () -> z.bars(0, 3));
    }

    private static void promise14() {
        LeadPark x = Texts.parkOf("way 0 0 10 0 20 0;way 0 3 10 4 20 3");
        Checks.equal("all", NONE, Texts.judge(x, 0, 1, 16, "33"));
        Checks.equal("not to the end", NONE, Texts.judge(x, 0, 1, 16, "3"));
        Checks.equal("no steps", NONE, Texts.judge(x, 0, 1, 9, ""));
        Checks.equal("the begin is too far", -2, Texts.judge(x, 0, 1, 8, ""));
        Checks.equal("the third is too far", 2, Texts.judge(x, 0, 1, 109, "121"));
        Checks.equal("beyond the man's end", 2, Texts.judge(x, 0, 1, 1000000, "111"));
        Checks.equal("beyond the dog's end", 2, Texts.judge(x, 0, 1, 1000000, "222"));
        Checks.equal("beyond one end of both", 3, Texts.judge(x, 0, 1, 1000000, "1123"));
        Checks.equal("the greatest lead", NONE, Texts.judge(x, 0, 1, Integer.MAX_VALUE, "1122"));
        Texts.law(x, "bar if man > 1");
        Checks.equal("shut", 1, Texts.judge(x, 0, 1, Integer.MAX_VALUE, "1122"));
        Texts.law(x, "bar if man < 1");
        Checks.equal("the begin is shut", -2, Texts.judge(x, 0, 1, Integer.MAX_VALUE, "1122"));
        Checks.isFalse("used up", x.end(1));
    }

    private static void promise14Wrong() {
        LeadPark x = Texts.parkOf("way 0 0 10 0 20 0;way 0 3 10 4 20 3");
        Checks.illegal("a byte 48", () -> Texts.judge(x, 0, 1, 16, "30"));
        Checks.illegal("a byte 52", () -> Texts.judge(x, 0, 1, 16, "4"));
        Checks.illegal("a blank", () -> Texts.judge(x, 0, 1, 16, "3 3"));
        Checks.illegal("a high byte", () -> Texts.judge(x, 0, 1, 16, "3" + (char) 179));
        Checks.illegal("a wrong byte behind a step that cannot be gone", () -> Texts.judge(x, 0, 1, 9, "1111x"));
        Checks.illegal("a lead below 0", () -> Texts.judge(x, 0, 1, -1, "3"));
        Checks.isFalse("used up by a throw", x.end(1));
        Checks.outOfBounds("told first", () -> Texts.judge(x, 0, 2, -1, "x"));
        Checks.isFalse("used up by this, too", x.end(1));
        Checks.outOfBounds("way", () -> Texts.judge(x, -1, 0, 1, "3"));
    }

    private static void promise15() {
        LeadPark x = Texts.parkOf("way 0 0 10 0;way 0 3 10 3;way 0 0 5 0 10 0;way 5 5");
        Checks.equal("whole edges", 9, x.parts(0, 1, 1));
        Checks.equal("eight parts", 9 * 64, x.parts(0, 1, 8));
        Checks.equal("5 by 0 is 5 off", 25, x.parts(0, 2, 1));
        Checks.equal("a point at 5 in two parts of 10; 2.5 off", 25, x.parts(0, 2, 2));
        Checks.equal("one point", 50 * 9, x.parts(0, 3, 3));
        Checks.equal("points alone", 0, x.parts(3, 3, 8));
        long open = x.parts(0, 2, 5);
        Texts.law(x, "bar");
        Texts.park(x, "wall 0 0 999 999");
        Checks.equal("the law is not looked at", open, x.parts(0, 2, 5));
        Checks.illegal("0", () -> x.parts(0, 1, 0));
        Checks.illegal("9", () -> x.parts(0, 1, 9));
        Checks.illegal("-1", () -> x.parts(0, 1, Integer.MIN_VALUE));
        Checks.outOfBounds("told first", () -> x.parts(4, 1, 0));
        Checks.outOfBounds("other", () -> x.parts(0, 4, 1));
        LeadPark y = Texts.parkOf("way 0 0 0 0;way 999 999 999 999");
        Checks.equal("the most", 127744128L, y.parts(0, 1, 8));
    }

    private static void promise16() {
        LeadPark x = Texts.parkOf("way 0 0 10 0 0 0 10 0;way 0 0 10 0;way 10 0 0 0");
        Checks.equal("with going back", 0, x.back(0, 1));
        Checks.equal("without", 100, x.least(0, 1));
        Checks.equal("begins apart", 100, x.back(0, 2));
        Checks.equal("other way round", 0, x.back(1, 0));
        Texts.law(x, "bar if man > 1 and man < 3");
        Checks.equal("shut", NONE, x.back(0, 1));
        Texts.law(x, "bar if man > 0 and man < 2 and dog > 0; bar if man > 1 and man < 3 and dog < 1");
        Checks.equal("round the shut places", 100, x.back(0, 1));
        Checks.outOfBounds("way", () -> x.back(3, 1));
        Checks.outOfBounds("other", () -> x.back(0, 3));
        LeadPark y = Texts.parkOf("way 5 5;way 5 6");
        Checks.equal("no steps", 1, y.back(0, 1));
        Texts.law(y, "bar");
        Checks.equal("nor a place", NONE, y.back(0, 1));
    }

    private static void promise17() {
        LeadPark x = Texts.parkOf("way 0 0 9 0 9 9 0 9;way 9 9 0 9 0 0 9 0;way 5 5;way 0 0 9 0");
        Checks.equal("turned", 0, x.ring(0, 1, false));
        Checks.equal("begins at", 2, x.ring(0, 1, true));
        Checks.equal("the same", 0, x.ring(0, 0, true));
        Checks.equal("one stands", 50, x.ring(0, 2, false));
        Checks.equal("by 0", 0, x.ring(0, 2, true));
        Checks.equal("the man stands", 50, x.ring(2, 0, false));
        Checks.equal("by the first of all", 0, x.ring(2, 0, true));
        Checks.equal("two points: there and back", 0, x.ring(3, 3, false));
        Checks.equal("and the last corner is followed by the first", 81, x.ring(0, 3, false));
        Texts.law(x, "bar if man < 1 and dog > 1 and dog < 3");
        Checks.equal("not from 2", 81, x.ring(0, 1, false));
        Checks.equal("but from 1", 1, x.ring(0, 1, true));
        Texts.law(x, "bar if man < 1");
        Checks.equal("none", NONE, x.ring(0, 1, false));
        Checks.equal("no begin", NONE, x.ring(0, 1, true));
        Checks.outOfBounds("way", () -> x.ring(4, 1, true));
        Checks.outOfBounds("other", () -> x.ring(0, -1, false));
    }

    private static void promise18() {
        LeadPark x = Texts.parkOf("way 0 0 10 0 20 0;way 0 3 10 3 20 3;way 0 4 20 4");
        Checks.equal("with one twice", 9, x.dogs(0, 1, 1));
        Checks.equal("the farther dog", 116, x.dogs(0, 1, 2));
        Checks.equal("either one", 116, x.dogs(0, 2, 1));
        Checks.equal("dogs may be far apart", 1, Texts.parkOf("way 1 0;way 0 0;way 2 0").dogs(0, 1, 2));
        Texts.law(x, "bar if dog > 1");
        Checks.equal("shut by the one", NONE, x.dogs(0, 1, 2));
        Checks.equal("shut by the other", NONE, x.dogs(0, 2, 1));
        Checks.equal("shut by none", 116, x.dogs(0, 2, 2));
        Checks.outOfBounds("way", () -> x.dogs(3, 1, 2));
        Checks.outOfBounds("one", () -> x.dogs(0, 3, 2));
        Checks.outOfBounds("other", () -> x.dogs(0, 1, 3));
    }

    private static void promise19() {
        LeadPark x = Texts.parkOf("way 1 0;way 0 0;way 2 0;way 0 0 10 0 20 0");
        Checks.equal("the dogs count, too", 4, x.three(0, 1, 2));
        Checks.equal("three of one", 0, x.three(3, 3, 3));
        Texts.law(x, "bar");
        Texts.park(x, "wall 0 0 999 0");
        Checks.equal("shut is not looked at", 4, x.three(0, 1, 2));
        Checks.outOfBounds("way", () -> x.three(4, 1, 2));
        Checks.outOfBounds("one", () -> x.three(0, -1, 2));
        Checks.outOfBounds("other", () -> x.three(0, 1, 4));
    }

    private static void promise20() {
        LeadPark x = Texts.parkOf("way 0 0 10 0 20 0;way 0 3 10 4 20 3;way 0 0;way 999 999");
        Checks.equal("by both", 34, x.drag(0, 1));
        Checks.equal("the one stands", 500, x.drag(0, 2));
        Checks.equal("the begin counts", 1996002, x.drag(2, 3));
        Texts.law(x, "bar if man + dog > 1 and man + dog < 3");
        Checks.equal("not by the middle", 9 + 109 + 116 + 9, x.drag(0, 1));
        Texts.law(x, "bar if man + dog < 1");
        Checks.equal("none", NONE, x.drag(0, 1));
        Checks.outOfBounds("way", () -> x.drag(4, 0));
        Checks.outOfBounds("other", () -> x.drag(0, 4));
        LeadPark y = Texts.parkOf("way 0 0 0 6 0 6 0 6 0 0;way 0 0 0 9 0 0");
        Checks.equal("least", 9, y.least(0, 1));
        Checks.equal("the sum", 27, y.drag(0, 1));
    }

    private static void greatest() {
        String low = "way " + Texts.repeated("0 0 9 9", " ", 15);
        String high = "way " + Texts.repeated("0 1 9 8", " ", 15);
        LeadPark x = Texts.parkOf(low + ";" + high);
        Checks.equal("30 corners: least", 1, x.least(0, 1));
        Checks.equal("30 corners: steps", 29, x.first(0, 1, NONE));
        Checks.equal("30 corners: ring", 1, x.ring(0, 1, false));
        Checks.equal("30 corners: back", 1, x.back(0, 1));
        Checks.equal("30 corners: dogs", 1, x.dogs(0, 1, 1));
        Checks.equal("30 corners: three", 1, x.three(0, 1, 1));
        Checks.equal("30 corners: drag", 30, x.drag(0, 1));
        Checks.equal("30 corners: parts", 64, x.parts(0, 1, 8));
        LeadPark y = Texts.parkOf("way " + Texts.repeated("0 0", " ", 30) + ";way " + Texts.repeated("0 0", " ", 29) + " 999 999");
        Checks.equal("58 steps are the first of all", 58, y.first(0, 0, NONE));
        Checks.equal("the last steps", 2, y.first(0, 1, 57));
    }
}
