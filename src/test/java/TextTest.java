/** Promises 1 to 6: a new object, the TAPE, the texts and their faults. */
public final class TextTest {
    public static void main(String[] args) {
        promise1();
        promise2();
        promise3();
        promise4();
        promise4Faults();
        promise4Limits();
        promise5();
        promise5Faults();
        promise5Holds();
        promise6();
        Checks.finish();
    }

    private static void promise1() {
        LeadPark x = new LeadPark();
        for (int what : new int[] {0, 1, 2, 4, 5}) {
            Checks.equal("new: count " + what, 0, x.count(what));
        }
        Checks.equal("new: lines", LeadPark.NONE, x.count(3));
        Checks.equal("new: fault", LeadPark.NONE, x.fault());
        Checks.equal("new: on", LeadPark.NONE, x.on(0));
        Checks.equal("new: seed", 1, x.seed(1));
        Checks.isFalse("new: again", x.again());
        Checks.isFalse("new: end 1", x.end(1));
        Checks.isTrue("new: end 0", x.end(0));
    }

    private static void promise2() {
        LeadPark x = new LeadPark();
        for (int k = 1; k <= 20; k++) {
            Checks.equal("feed " + k, 20 * k, x.feed(0, 0, 0, 0, 0));
        }
        Checks.equal("feed above 400", LeadPark.NONE, x.feed(0, 0, 0, 0, 0));
        Checks.isTrue("still 400", x.end(400));
        Checks.isTrue("381", x.end(381));
        Checks.equal("feed above 400 by one", LeadPark.NONE, x.feed(0, 0, 0, 0, 0));
        Checks.isFalse("none came", x.end(382));
        Checks.isTrue("380", x.end(380));
        Checks.equal("feed up to 400", 400, x.feed(0, 0, 0, 0, 0));
        x.end(0);
        // "way 1 2" and then bytes of the other numbers, the highest first
        x.feed(0x77617920, 0x31203220, 0x33203420, 0x35203620, 0x37203820);
        Checks.equal("bytes in their order", 1, x.park());
        for (int k = 0; k < 8; k++) {
            Checks.equal("byte order " + k, k + 1, x.corner(0, k / 2, k % 2 == 1));
        }
    }

    private static void promise3() {
        LeadPark x = new LeadPark();
        x.feed(0x77617920, 0x31203220, 0x33203420, 0x35203620, 0x37203820);
        Checks.isFalse("more than there are", x.end(21));
        Checks.isFalse("below 0", x.end(-1));
        Checks.isFalse("far below 0", x.end(Integer.MIN_VALUE));
        Checks.isTrue("all", x.end(20));
        Checks.isTrue("seven", x.end(7));
        Checks.isFalse("eight are gone", x.end(8));
        Checks.equal("the first seven", 1, x.park());
        Checks.equal("one corner", 1, x.corners(0));
        Checks.isFalse("used up", x.end(1));
    }

    private static void promise4() {
        LeadPark x = new LeadPark();
        Checks.equal("empty text", 1, Texts.park(x, ""));
        Checks.equal("blanks", 2, Texts.park(x, "    "));
        Checks.equal("no ways", 0, x.count(0));
        Checks.equal("blanks all over", 3, Texts.park(x, "  way  1   2 ;  wall 0 0 1 1;more 0 007 8  "));
        Checks.equal("corners", 2, x.corners(0));
        Checks.equal("x", 7, x.corner(0, 1, false));
        Checks.equal("y", 8, x.corner(0, 1, true));
        Checks.equal("without blanks where none need be", 4, Texts.park(x, "way1 2;more1 3 4;wall1 2 3 4"));
        Checks.equal("ways", 2, x.count(0));
        Checks.equal("walls", 2, x.count(1));
        Checks.equal("texts", 4, x.count(2));
        Checks.equal("corners of all", 4, x.count(5));
        Checks.equal("more at the end", 4, x.corner(1, 1, true));
        Checks.equal("999", 5, Texts.park(x, "way 999 0 0 999"));
        Checks.equal("999 x", 999, x.corner(2, 0, false));
        for (int k = 6; k <= 16; k++) {
            Checks.equal("text " + k, k, Texts.park(x, ""));
        }
        Checks.unsupported("17th", () -> Texts.park(x, "way 1 1"));
        Checks.equal("nothing of the 17th", 3, x.count(0));
        Checks.equal("16 stay", 16, x.count(2));
        Checks.isFalse("17th is used up", x.end(1));
        Checks.illegal("17th and wrong", () -> Texts.park(x, "way 1"));
        Checks.equal("its fault", 5, x.fault());
        Checks.unsupported("17th and right", () -> Texts.park(x, ""));
        Checks.equal("no fault in it", LeadPark.NONE, x.fault());
    }

    private static void promise4Faults() {
        LeadPark x = new LeadPark();
        Texts.wrongPark(x, ";", 0);
        Texts.wrongPark(x, "  ; way 1 1", 2);
        Texts.wrongPark(x, "way 1 1;", 8);
        Texts.wrongPark(x, "way 1 1 ;  ", 11);
        Texts.wrongPark(x, "way 1 1;;way 1 1", 8);
        Texts.wrongPark(x, "way", 3);
        Texts.wrongPark(x, "way ", 4);
        Texts.wrongPark(x, "way;", 3);
        Texts.wrongPark(x, "ways 1 1", 0);
        Texts.wrongPark(x, "Way 1 1", 0);
        Texts.wrongPark(x, "way 1 1 x", 8);
        Texts.wrongPark(x, "way 1 1x", 7);
        Texts.wrongPark(x, "way 1 1 1;way 1 1", 9);
        Texts.wrongPark(x, "way 1,1", 5);
        Texts.wrongPark(x, "way 1 -1", 6);
        Texts.wrongPark(x, "way 1\t1", 5);
        Texts.wrongPark(x, "way 1 " + (char) 233, 6);
        Texts.wrongPark(x, "way 0001 1", 4);
        Texts.wrongPark(x, "way 1 1000", 6);
        Texts.wrongPark(x, "more", 4);
        Texts.wrongPark(x, "more 0 1 1", 5);
        Texts.wrongPark(x, "more 0 1 1;way 1 1", 5);
        Texts.wrongPark(x, "way 1 1;more 0", 14);
        Texts.wrongPark(x, "way 1 1;more 0;", 14);
        Texts.wrongPark(x, "way 1 1;more 0000 1 1", 13);
        Texts.wrongPark(x, "way 1 1;more way 1 1", 13);
        Texts.wrongPark(x, "wall 1 1 1", 10);
        Texts.wrongPark(x, "wall 1 1 1;", 10);
        Texts.wrongPark(x, "wall 1 1 1 1 1", 13);
        Texts.wrongPark(x, "way 1 1 wall 1 1 1 1", 8);
        Texts.wrongPark(x, "bar", 0);
        Texts.wrongPark(x, "5", 0);
        Checks.equal("nothing stays: ways", 0, x.count(0));
        Checks.equal("nothing stays: walls", 0, x.count(1));
        Checks.equal("nothing stays: texts", 0, x.count(2));
        Checks.equal("nothing stays: corners", 0, x.count(5));
    }

    private static void promise4Limits() {
        LeadPark x = new LeadPark();
        Checks.equal("30 corners", 1, Texts.park(x, "way " + Texts.repeated("1 1", " ", 30)));
        Checks.equal("30", 30, x.corners(0));
        Texts.wrongPark(x, "more 0 5 5", 7);
        Texts.wrongPark(x, "more 0", 6);
        Texts.wrongPark(x, "more 0 x", 7);
        Checks.equal("29", 2, Texts.park(x, "way " + Texts.repeated("2 2", " ", 29)));
        Texts.wrongPark(x, "more 1 5 5 6 6", 11);
        Checks.equal("29 stay", 29, x.corners(1));
        Checks.equal("the 30th", 3, Texts.park(x, "more 1 5 5"));
        Checks.equal("10 ways more", 4, Texts.park(x, Texts.repeated("way 3 3", ";", 10)));
        Checks.equal("12 ways", 12, x.count(0));
        Texts.wrongPark(x, "wall 1 1 1 1; way 3 3", 14);
        Texts.wrongPark(x, "more 12 3 3", 5);
        Checks.equal("the 12th", 5, Texts.park(x, "more 11 3 3"));
        Checks.equal("8 walls", 6, Texts.park(x, Texts.repeated("wall 3 3 3 3", ";", 8)));
        Texts.wrongPark(x, "wall 3 3 3 3", 0);
        Checks.equal("8 stay", 8, x.count(1));
        Checks.equal("14 lines", 7, Texts.park(x, Texts.repeated("more 2 3 3", ";", 14)));
        Texts.wrongPark(x, Texts.repeated("more 3 3 3", ";", 15), 14 * 11);
        Texts.wrongPark(x, Texts.repeated("more 3 3 3", ";", 14) + ";  ", 14 * 11 + 2);
        Texts.wrongPark(x, Texts.repeated("more 3 3 3", ";", 14) + " ; foo", 14 * 11 + 2);
        Checks.equal("15 corners", 15, x.corners(2));
        Checks.equal("1 corner", 1, x.corners(3));
    }

    private static void promise5() {
        LeadPark x = Texts.parkOf("way 1 1 2 2;way 3 3");
        Checks.equal("one line", 1, Texts.law(x, "bar"));
        Checks.isTrue("all is shut", x.shut(0, 0, 1, 0));
        Checks.equal("in its place", 2, Texts.law(x, " bar if man>0 ; bar if man > 5 "));
        Checks.isFalse("the one before is gone", x.shut(0, 0, 1, 0));
        Checks.isTrue("the new one holds", x.shut(0, 1, 1, 0));
        Checks.equal("lines", 2, x.count(3));
        Checks.equal("12 lines", 12, Texts.law(x, Texts.repeated("bar if far < 0", ";", 12)));
        Checks.equal("no line", 0, Texts.law(x, "  "));
        Checks.equal("a law of no line", 0, x.count(3));
        Checks.isFalse("nothing is shut", x.shut(0, 1, 1, 0));
        Checks.equal("7 digits", 1, Texts.law(x, "bar if far < 0000001"));
        Checks.equal("6 deep", 1, Texts.law(x, "bar if not(not(not(far<1)))and((((((1<2))))))"));
        Checks.equal("400 bytes", 1, Texts.law(x, "bar if 1<0" + Texts.repeated("or1<0", "", 78)));
        Checks.isFalse("400 bytes", x.shut(0, 0, 1, 0));
        Checks.equal("400 bytes more", 1, Texts.law(x, "bar if 1<0" + Texts.repeated("or1<0", "", 77) + "or0<1"));
        Checks.isTrue("the last holds", x.shut(0, 0, 1, 0));
        String nines = Texts.repeated("9999999", "+", 24);
        Texts.law(x, "bar if " + nines + ">" + nines);
        Checks.isFalse("as much", x.shut(0, 0, 1, 0));
        Texts.law(x, "bar if " + nines + "+1>" + nines);
        Checks.isTrue("one more", x.shut(0, 0, 1, 0));
    }

    private static void promise5Faults() {
        LeadPark x = Texts.parkOf("way 1 1 2 2;way 3 3");
        Texts.law(x, "bar if man > 0");
        Texts.wrongLaw(x, ";", 0);
        Texts.wrongLaw(x, "way 1 1", 0);
        Texts.wrongLaw(x, "bars", 0);
        Texts.wrongLaw(x, "barif 1<2", 0);
        Texts.wrongLaw(x, "bar;", 4);
        Texts.wrongLaw(x, "bar bar", 4);
        Texts.wrongLaw(x, "bar if", 6);
        Texts.wrongLaw(x, "bar if ;", 7);
        Texts.wrongLaw(x, "bar if 1", 8);
        Texts.wrongLaw(x, "bar if 1 and", 9);
        Texts.wrongLaw(x, "bar if 1 = 2", 9);
        Texts.wrongLaw(x, "bar if 1 <", 10);
        Texts.wrongLaw(x, "bar if 1 <= 2", 10);
        Texts.wrongLaw(x, "bar if 1 < 2 < 3", 13);
        Texts.wrongLaw(x, "bar if 1 + < 3", 11);
        Texts.wrongLaw(x, "bar if + 1 < 3", 7);
        Texts.wrongLaw(x, "bar if 1 1 < 3", 9);
        Texts.wrongLaw(x, "bar if mxy < 3", 7);
        Texts.wrongLaw(x, "bar if man dog < 3", 11);
        Texts.wrongLaw(x, "bar if 3man < 3", 8);
        Texts.wrongLaw(x, "bar if 00000001 < 3", 7);
        Texts.wrongLaw(x, "bar if 1<2 or", 13);
        Texts.wrongLaw(x, "bar if 1<2 and;", 14);
        Texts.wrongLaw(x, "bar if 1<2 or or 1<2", 14);
        Texts.wrongLaw(x, "bar if 1<2)", 10);
        Texts.wrongLaw(x, "bar if (1<2", 11);
        Texts.wrongLaw(x, "bar if (1<2;bar", 11);
        Texts.wrongLaw(x, "bar if (1)<2", 9);
        Texts.wrongLaw(x, "bar if () ", 8);
        Texts.wrongLaw(x, "bar if not", 10);
        Texts.wrongLaw(x, "bar if not 1", 12);
        Texts.wrongLaw(x, "bar if 1 < not 1", 11);
        Texts.wrongLaw(x, "bar if 1<2 if 1<2", 11);
        Texts.wrongLaw(x, "bar if (((((((1<2)))))))", 13);
        Texts.wrongLaw(x, "bar if not(not(not(not 1<2)))", 19);
        Texts.wrongLaw(x, "bar if ((((((not 1<2))))))", 13);
        Texts.wrongLaw(x, "bar if ((((((1<2)))))) and not not not not not not not 1<2", 51);
        Texts.wrongLaw(x, Texts.repeated("bar", ";", 13), 48);
        Texts.wrongLaw(x, Texts.repeated("bar", ";", 12) + "; ", 49);
        Texts.wrongLaw(x, "bar" + (char) 200, 3);
        Checks.equal("the law stays", 1, x.count(3));
        Checks.isTrue("it holds", x.shut(0, 1, 1, 0));
        Checks.isFalse("and bars no more", x.shut(0, 0, 1, 0));
    }

    private static void promise5Holds() {
        LeadPark x = Texts.parkOf("way 11 22 33 44;way 5 6 7 8 9 10");
        holds(x, "man < 2 and man > 0", true);
        holds(x, "dog > 1 and dog < 3", true);
        holds(x, "mx > 32 and mx < 34", true);
        holds(x, "my > 43 and my < 45", true);
        holds(x, "dx > 8 and dx < 10", true);
        holds(x, "dy > 9 and dy < 11", true);
        holds(x, "far > 1731 and far < 1733", true);
        holds(x, "mx + my + dx + 4 > 89 and 91 > mx+my+dx+4", true);
        holds(x, "1 < 1", false);
        holds(x, "1 > 1", false);
        holds(x, "1 < 2 or 1 < 2 and 2 < 1", true);
        holds(x, "(1 < 2 or 1 < 2) and 2 < 1", false);
        holds(x, "2 < 1 and 1 < 2 or 1 < 2", true);
        holds(x, "not 2 < 1 and 2 < 1", false);
        holds(x, "not (2 < 1 and 2 < 1)", true);
        holds(x, "not not 1 < 2", true);
        holds(x, "1<2 and (1<2 and (2<1 or (1<2 and not (2<1 or 2<1))))", true);
        Texts.law(x, "bar if 2 < 1; bar if man > 0; bar if 2 < 1");
        Checks.isTrue("some line", x.shut(0, 1, 1, 0));
        Checks.isFalse("no line", x.shut(0, 0, 1, 0));
    }

    private static void holds(LeadPark x, String condition, boolean due) {
        Texts.law(x, "bar if " + condition);
        Checks.equal(condition, due ? 1 : 0, x.shut(0, 1, 1, 2) ? 1 : 0);
    }

    private static void promise6() {
        LeadPark x = new LeadPark();
        Checks.equal("ahead of any", LeadPark.NONE, x.fault());
        Texts.wrongPark(x, "way 1", 5);
        x.feed(0, 0, 0, 0, 0);
        x.end(0);
        Checks.equal("it stays", 5, x.fault());
        Texts.law(x, "bar");
        Checks.equal("the latest is right", LeadPark.NONE, x.fault());
        Texts.wrongLaw(x, "bar x", 4);
        Texts.park(x, "way 1 1");
        Checks.equal("right again", LeadPark.NONE, x.fault());
        Texts.wrongLaw(x, "x", 0);
        Checks.illegal("steps are no text", () -> Texts.judge(x, 0, 0, 1, "  4"));
        Checks.equal("so the fault stays", 0, x.fault());
    }
}
