/** Boundary cases of promises 1 to 6: a new object, the TAPE, the texts of THE PARK and of THE LAW, and their faults. */
public final class EdgesOfTextsTest {
    private static final int NONE = LeadPark.NONE;

    public static void main(String[] args) {
        newObject();
        calls();
        feed();
        end();
        parkCounts();
        parkNumbers();
        parkWords();
        parkFaults();
        parkAsAWhole();
        lawLines();
        lawDepth();
        lawNumbers();
        lawMeaning();
        lawWords();
        lawAsAWhole();
        fault();
        Edge.finish(1, 6);
    }

    private static String ways(int many) {
        return Texts.repeated("way 1 1", ";", many);
    }

    private static String walls(int many) {
        return Texts.repeated("wall 9 9 9 9", ";", many);
    }

    private static String corners(int many) {
        return Texts.repeated("1 1", " ", many);
    }

    private static String blanks(int many) {
        return Texts.repeated(" ", "", many);
    }

    /** A text that tells nothing more than there is, and has so many bytes. */
    private static String padded(String ahead, String behind, int bytes) {
        return ahead + blanks(bytes - ahead.length() - behind.length()) + behind;
    }

    // ---- promise 1

    private static void newObject() {
        Edge.of(1, "Nothing told.");
        LeadPark before = Texts.parkOf("way 1 1;wall 2 2 2 2");
        Texts.law(before, "bar");
        LeadPark x = new LeadPark();
        for (int what = 0; what <= 5; what++) {
            Checks.equal("count " + what, what == 3 ? NONE : 0, x.count(what));
        }
        for (int what = 0; what <= 6; what++) {
            Checks.equal("on " + what, NONE, x.on(what));
        }
        Checks.equal("fault", NONE, x.fault());
        Checks.equal("undo", NONE, x.undo());
        Checks.equal("step", NONE, x.step(3));
        Checks.equal("live", 0, x.live(60));
        Checks.equal("unmark", NONE, x.unmark());
        Checks.equal("needed", NONE, x.needed());
        Checks.equal("misfits", 0, x.fits(0, 0, false));
        Checks.equal("first misfit", NONE, x.fits(0, 0, true));
        Checks.equal("own", 0, x.own(-1));
        Checks.equal("middle", NONE, x.middle(-1));
        Checks.isFalse("again", x.again());
        Checks.isFalse("a byte on the tape", x.end(1));
        Checks.outOfBounds("way 0", () -> x.corners(0));
        Checks.equal("seed", 1, x.seed(1));
        Checks.equal("the empty tape is an empty text", 1, x.park());
        Checks.equal("of the law, too", 0, x.law());
        Checks.equal("NONE", -1, LeadPark.NONE);
    }

    private static void calls() {
        Edge.of(1, "An object is used for at most 512 calls after it has been made");
        LeadPark x = new LeadPark();
        int calls = 0;
        for (int way = 0; way < 2; way++) {
            String text = "way " + Texts.repeated(way == 0 ? "0 0 9 0" : "0 1 9 1", " ", 15);
            Texts.park(x, text);
            calls += (text.length() + 19) / 20 + 2;
        }
        Texts.law(x, "bar if not far < 90");
        calls += 3;
        x.begin(0, 1, 82);
        calls++;
        for (; calls < 508; calls += 4) {
            Checks.equal("parts at call " + calls, 64, x.parts(0, 1, 8));
            Checks.equal("dogs at call " + calls, 1, x.dogs(0, 1, 1));
            x.live(1);
            x.undo();
        }
        for (; calls < 511; calls++) {
            Checks.equal("least at call " + calls, 1, x.least(0, 1));
        }
        Checks.equal("the 512th call", 60, x.count(5));
    }

    // ---- promises 2 and 3

    private static void feed() {
        Edge.of(2, "Twenty bytes come behind the TAPE");
        LeadPark x = new LeadPark();
        Texts.tape(x, "way 1 2");
        Checks.equal("behind 7", 27, x.feed(0x20332034, 0x20352036, 0x20202020, 0x20202020, 0x20202020));
        Checks.equal("the text goes on", 1, x.park());
        Checks.equal("three corners", 3, x.corners(0));
        Checks.equal("the last one's Y", 6, x.corner(0, 2, true));

        Edge.of(2, "of each number the highest first");
        LeadPark y = new LeadPark();
        y.feed(0x77617920, 0x31203220, 0x33203420, 0x35203620, 0x37203820);
        y.park();
        for (int k = 0; k < 8; k++) {
            Checks.equal("byte order " + k, k + 1, y.corner(0, k / 2, k % 2 == 1));
        }
        y.feed(0x20202020, 0x20202020, 0x20202020, 0x20202020, 0x20802020);
        Checks.illegal("a byte of 128", y::park);
        Checks.equal("is the 17th", 17, y.fault());
        y.feed(0xff202020, 0x20202020, 0x20202020, 0x20202020, 0x20202020);
        Checks.illegal("a number below 0", y::park);
        Checks.equal("has its highest byte first", 0, y.fault());

        Edge.of(2, "how many it has");
        LeadPark z = new LeadPark();
        Checks.equal("20", 20, z.feed(0, 0, 0, 0, 0));
        Checks.equal("40", 40, z.feed(-1, -1, -1, -1, -1));
        z.end(1);
        Checks.equal("21", 21, z.feed(0, 0, 0, 0, 0));
        z.end(0);
        Checks.equal("20 again", 20, z.feed(0, 0, 0, 0, 0));

        Edge.of(2, "NONE, and none come, if it would have more than 400");
        LeadPark w = new LeadPark();
        Texts.tape(w, padded("way 1 1", "", 380));
        Checks.equal("380 and 20", 400, w.feed(0x20202020, 0x20202020, 0x20202020, 0x20202020, 0x20202037));
        Checks.equal("400 and 20", NONE, w.feed(0, 0, 0, 0, 0));
        Checks.isFalse("none came", w.end(401));
        Checks.isTrue("400 are left", w.end(400));
        Checks.isTrue("399", w.end(399));
        Checks.equal("399 and 20", NONE, w.feed(0, 0, 0, 0, 0));
        Checks.isFalse("not even one came", w.end(400));
        Checks.isTrue("381", w.end(381));
        Checks.equal("381 and 20", NONE, w.feed(0, 0, 0, 0, 0));
        Checks.isFalse("nor one here", w.end(382));
        Checks.equal("the bytes are as they were", 1, w.park());
        Checks.equal("one corner", 1, w.corners(0));
    }

    private static void end() {
        Edge.of(3, "The TAPE has its first n bytes alone: true");
        LeadPark x = new LeadPark();
        Checks.isTrue("0 of none", x.end(0));
        Texts.tape(x, "way 1 2 3 4;wall 5 6");
        Checks.isTrue("all", x.end(20));
        Checks.isTrue("11", x.end(11));
        Checks.isTrue("11 again", x.end(11));
        Checks.isTrue("7", x.end(7));
        Checks.equal("the first 7", 1, x.park());
        Checks.equal("one corner", 1, x.corners(0));
        Texts.tape(x, "way 1 2");
        Checks.isTrue("0", x.end(0));
        Checks.equal("an empty text", 2, x.park());
        Checks.equal("no way more", 1, x.count(0));

        Edge.of(3, "false, and nothing happens, if it has fewer, or n is below 0");
        LeadPark y = new LeadPark();
        Checks.isFalse("1 of none", y.end(1));
        Checks.isFalse("-1 of none", y.end(-1));
        Texts.tape(y, "way 1 2");
        Checks.isFalse("8 of 7", y.end(8));
        Checks.isFalse("20 of 7", y.end(20));
        Checks.isFalse("the most", y.end(Integer.MAX_VALUE));
        Checks.isFalse("-1", y.end(-1));
        Checks.isFalse("the least", y.end(Integer.MIN_VALUE));
        Checks.equal("nothing happened", 27, y.feed(0x20332034, 0x20202020, 0x20202020, 0x20202020, 0x20202020));
        Checks.equal("it is a text", 1, y.park());
        Checks.equal("with both parts", 2, y.corners(0));
        Checks.isFalse("1 of a used up tape", y.end(1));
        Checks.isTrue("0 of a used up tape", y.end(0));
    }

    // ---- promise 4

    private static void parkCounts() {
        Edge.of(4, "WAYS (at most 12, numbered from 0 on)");
        LeadPark x = Texts.parkOf(ways(11) + ";way 7 8");
        Checks.equal("12", 12, x.count(0));
        Checks.equal("the 12th", 8, x.corner(11, 0, true));
        Checks.outOfBounds("a 13th", () -> x.corners(12));

        Edge.of(4, "of a WAY, WALL too many, the first word");
        Texts.wrongPark(x, "way 1 1", 0);
        Texts.wrongPark(x, "  way", 2);
        Texts.wrongPark(x, "more 11 2 2 ; way 1 1", 14);
        Texts.wrongPark(new LeadPark(), ways(13), 96);
        Checks.equal("12 stay", 12, x.count(0));
        LeadPark walled = Texts.parkOf(walls(8));
        Texts.wrongPark(walled, "wall 1 1 1 1", 0);
        Texts.wrongPark(walled, " wall", 1);
        Texts.wrongPark(new LeadPark(), walls(9), 8 * 13);
        Texts.wrongPark(walled, "way 1 1;wall 1", 8);
        Checks.equal("a way can still come", 2, Texts.park(walled, "way 1 1"));
        Checks.equal("and 8 walls stay", 8, walled.count(1));

        Edge.of(4, "WALLS (at most 8, numbered from 0 on): from X Y to X Y");
        LeadPark eight = Texts.parkOf("way 0 0;" + walls(7) + ";wall 0 1 1 0");
        Checks.equal("8", 8, eight.count(1));
        Checks.isFalse("the 8th beside", eight.shut(0, 0, 0, 0));
        LeadPark on = Texts.parkOf("way 0 0;" + walls(7) + ";wall 0 0 1 0");
        Checks.isTrue("the 8th is one, too", on.shut(0, 0, 0, 0));

        Edge.of(4, "1 to 30 CORNERS each (numbered from 0 on)");
        Checks.equal("1", 1, Texts.parkOf("way 5 5").corners(0));
        LeadPark thirty = Texts.parkOf("way " + corners(29) + " 8 9;way 4 4");
        Checks.equal("30", 30, thirty.corners(0));
        Checks.equal("the 30th", 9, thirty.corner(0, 29, true));
        Checks.equal("the next way is its own", 4, thirty.corner(1, 0, false));
        Texts.wrongPark(thirty, "way", 3);
        Texts.wrongPark(thirty, "way;way 1 1", 3);

        Edge.of(4, "of a CORNER too many its X");
        Texts.wrongPark(new LeadPark(), "way " + corners(31), 124);
        Texts.wrongPark(new LeadPark(), "way " + corners(30) + " 1", 124);
        Texts.wrongPark(new LeadPark(), "way " + corners(30) + "   ;way " + corners(31), 127 + 124);
        Texts.wrongPark(thirty, "more 0 2 2", 7);
        Texts.wrongPark(thirty, "more 0 2", 7);
        Texts.wrongPark(thirty, "more 0", 6);
        Texts.wrongPark(thirty, "more 1 " + corners(30), 7 + 29 * 4);
        Checks.equal("29 more", 2, Texts.park(thirty, "more 1 " + corners(29)));
        Checks.equal("make 30", 30, thirty.corners(1));

        Edge.of(4, "LINE { ; LINE }, at most 14");
        LeadPark lines = Texts.parkOf(ways(12) + ";wall 1 1 1 1;more 11 2 2");
        Checks.equal("the 14th was told", 2, lines.corners(11));
        Checks.equal("14 short ones", 2, Texts.park(lines, Texts.repeated("more 2 3 3", ";", 14)));
        Checks.equal("15 corners", 15, lines.corners(2));

        Edge.of(4, "of a LINE too many");
        Texts.wrongPark(lines, Texts.repeated("more 3 3 3", ";", 15), 14 * 11);
        Texts.wrongPark(lines, Texts.repeated("more 3 3 3", ";", 14) + ";   wall", 14 * 11 + 3);
        Texts.wrongPark(lines, Texts.repeated("more 3 3 3", ";", 14) + ";", 14 * 11);
        Texts.wrongPark(lines, Texts.repeated("more 3 3 3", ";", 14) + ";;", 14 * 11);
        Checks.equal("nothing of them stays", 1, lines.corners(3));
    }

    private static void parkNumbers() {
        Edge.of(4, "X and Y, 0 to 999");
        LeadPark x = Texts.parkOf("way 0 999 999 0;more 0 0 0 999 999;wall 0 999 999 0");
        int[] due = {0, 999, 999, 0, 0, 0, 999, 999};
        for (int k = 0; k < due.length; k++) {
            Checks.equal("number " + k, due[k], x.corner(0, k / 2, k % 2 == 1));
        }
        Checks.isTrue("the wall's ends", x.shut(0, 0, 0, 0) && x.shut(0, 1, 0, 1));
        Checks.isFalse("and no other corner", x.shut(0, 2, 0, 2) || x.shut(0, 3, 0, 3));

        Edge.of(4, "all others of 1 to 3");
        LeadPark y = Texts.parkOf("way 000 007 07 7;more 000 1 1;wall 000 001 002 003");
        Checks.equal("007", 7, y.corner(0, 0, true));
        Checks.equal("three corners", 3, y.corners(0));

        Edge.of(4, "a number of more digits");
        Texts.wrongPark(y, "way 1000 1", 4);
        Texts.wrongPark(y, "way 0001 1", 4);
        Texts.wrongPark(y, "way 1 1000", 6);
        Texts.wrongPark(y, "way 1 0000", 6);
        Texts.wrongPark(y, "way 1 1 1000 1", 8);
        Texts.wrongPark(y, "way 1 1 1 1000", 10);
        Texts.wrongPark(y, "more 0000 1 1", 5);
        Texts.wrongPark(y, "more 0 1000 1", 7);
        Texts.wrongPark(y, "more 0 1 1000", 9);
        Texts.wrongPark(y, "wall 1000 1 1 1", 5);
        Texts.wrongPark(y, "wall 1 1000 1 1", 7);
        Texts.wrongPark(y, "wall 1 1 1000 1", 9);
        Texts.wrongPark(y, "wall 1 1 1 1000", 11);
        Texts.wrongPark(y, "way 4294967297 1", 4);
        Texts.wrongPark(y, "way 99999999999999999999999999 1", 4);

        Edge.of(4, "or that tells no WAY");
        Texts.wrongPark(y, "more 1 1 1", 5);
        Texts.wrongPark(y, "more 999 1 1", 5);
        Texts.wrongPark(y, "more   1", 7);
        Texts.wrongPark(new LeadPark(), "more 0 1 1", 5);
        Texts.wrongPark(Texts.parkOf(ways(12)), "more 12 1 1", 5);
        Texts.wrongPark(y, "wall 1 1 1 1;more 1 1 1;way 1 1", 18);

        Edge.of(4, "CORNERS more at the end of a WAY that there is by then");
        LeadPark z = Texts.parkOf("way 1 1;more 0 2 2;way 3 3;more 1 4 4;more 0 5 5");
        Checks.equal("the first has three", 3, z.corners(0));
        Checks.equal("the last at its end", 5, z.corner(0, 2, true));
        Checks.equal("the second has two", 2, z.corners(1));
        Checks.equal("of its own", 4, z.corner(1, 1, true));
        Checks.equal("by a later text", 2, Texts.park(z, "more 1 6 7 8 9"));
        Checks.equal("four", 4, z.corners(1));
        Checks.equal("the last one", 9, z.corner(1, 3, true));
        Checks.equal("the first is as it was", 3, z.corners(0));
    }

    private static void parkWords() {
        Edge.of(4, "Words are as long as a to z go on");
        LeadPark x = Texts.parkOf("way1 2;more0 3 4;wall5 6 7 8");
        Checks.equal("a number ends a word", 2, x.corners(0));
        Texts.wrongPark(x, "ways 1 1", 0);
        Texts.wrongPark(x, "waya 1 1", 0);
        Texts.wrongPark(x, "wayz 1 1", 0);
        Texts.wrongPark(x, "wa 1 1", 0);
        Texts.wrongPark(x, "wa y 1 1", 0);
        Texts.wrongPark(x, "mor 0 1 1", 0);
        Texts.wrongPark(x, "walls 1 1 1 1", 0);
        Texts.wrongPark(x, "way`1 1", 3);
        Texts.wrongPark(x, "way{1 1", 3);
        Texts.wrongPark(x, "wayA 1 1", 3);
        Texts.wrongPark(x, "WAY 1 1", 0);

        Edge.of(4, "a word that is none");
        Texts.wrongPark(x, "bar", 0);
        Texts.wrongPark(x, "w", 0);
        Texts.wrongPark(x, "way 1 1;a", 8);
        Texts.wrongPark(x, "way x 1", 4);
        Texts.wrongPark(x, "way 1 way", 6);
        Texts.wrongPark(x, "more way 1 1", 5);
        Texts.wrongPark(x, "wall 1 1 1 wall", 11);

        Edge.of(4, "between all there may be blanks (32), also ahead and behind");
        LeadPark y = Texts.parkOf("  way  1  2  3  4  ;  more  0  5  6  ;  wall  7  8  9  9  ");
        Checks.equal("three corners", 3, y.corners(0));
        Checks.equal("one wall", 1, y.count(1));
        Texts.wrongPark(y, (char) 31 + "way 1 1", 0);
        Texts.wrongPark(y, "way!1 1", 3);
        Texts.wrongPark(y, "way\t1 1", 3);
        Texts.wrongPark(y, "way 1 1\n", 7);
        Texts.wrongPark(y, "way 1 1" + (char) 0, 7);
        Texts.wrongPark(y, "way 1 1" + (char) 160, 7);
        Texts.wrongPark(y, "way 1 1" + (char) 255, 7);

        Edge.of(4, "A text that is empty, or blanks alone, has no LINE.");
        LeadPark z = Texts.parkOf("");
        Checks.equal("one blank", 2, Texts.park(z, " "));
        Checks.equal("400 blanks", 3, Texts.park(z, blanks(400)));
        Checks.equal("no fault", NONE, z.fault());
        Checks.equal("no way", 0, z.count(0));
        Checks.equal("no wall", 0, z.count(1));
    }

    private static void parkFaults() {
        Edge.of(4, "the begin of the first thing that cannot stand there");
        LeadPark x = new LeadPark();
        Texts.wrongPark(x, ";", 0);
        Texts.wrongPark(x, "  ;", 2);
        Texts.wrongPark(x, "5", 0);
        Texts.wrongPark(x, "way;", 3);
        Texts.wrongPark(x, "way 1;", 5);
        Texts.wrongPark(x, "way 1 1;;", 8);
        Texts.wrongPark(x, "way 1 1 1;", 9);
        Texts.wrongPark(x, "way 1,1", 5);
        Texts.wrongPark(x, "way -1 1", 4);
        Texts.wrongPark(x, "way /1 1", 4);
        Texts.wrongPark(x, "way :1 1", 4);
        Texts.wrongPark(x, "way 1/1", 5);
        Texts.wrongPark(x, "way 1:1", 5);
        Texts.wrongPark(x, "way 1 1 way 1 1", 8);
        Texts.wrongPark(x, "way 1 1:way 1 1", 7);
        Texts.wrongPark(x, "way 1 1<way 1 1", 7);
        Texts.wrongPark(x, "way 1 1;more;", 12);
        Texts.wrongPark(x, "way 1 1;more 0;", 14);
        Texts.wrongPark(x, "wall;", 4);
        Texts.wrongPark(x, "wall 1 1 1;", 10);
        Texts.wrongPark(x, "wall 1 1 1 1 1", 13);
        Texts.wrongPark(x, "wall 1 1 1 1 1 1 1 1", 13);
        Texts.wrongPark(x, "way 1 1;wall 1 1 1 1000;foo;way", 19);
        Texts.wrongPark(x, "way 1 1 " + (char) 238, 8);
        Texts.wrongPark(x, padded("way 1 1", "x", 400), 399);

        Edge.of(4, "or the text's length, if more must come");
        String[] shorts = {"way", "way 1", "way 1 2 3", "way 1 2;", "way 1 2;more", "way 1 2;more 0", "way 1 2;more 0 3",
            "way 1 2;wall", "wall 1", "wall 1 2", "wall 1 2 3", "wall 1 2 3 4;"};
        for (String text : shorts) {
            Texts.wrongPark(x, text, text.length());
            Texts.wrongPark(x, text + " ", text.length() + 1);
            Texts.wrongPark(x, padded(text, "", 400), 400);
        }
    }

    private static void parkAsAWhole() {
        Edge.of(4, "Of a wrong text nothing stays.");
        LeadPark x = Texts.parkOf("way 1 1;wall 9 9 9 9");
        Texts.wrongPark(x, "more 0 2 2;way 3 3;wall 4 4 4 4;x", 32);
        Texts.wrongPark(x, "more 0 2 2;way 3 3;wall 1 1 1 1;way 1", 37);
        int[] due = {1, 1, 1, NONE, 0, 1};
        for (int what = 0; what < due.length; what++) {
            Checks.equal("count " + what, due[what], x.count(what));
        }
        Checks.outOfBounds("no corner", () -> x.corner(0, 1, false));
        Checks.outOfBounds("no way", () -> x.corners(1));
        Checks.isFalse("no wall", x.shut(0, 0, 0, 0));
        Texts.wrongPark(x, "more 1 5 5", 5);
        Checks.equal("the next text goes on from there", 2, Texts.park(x, "more 0 5 6;way 7 8"));
        Checks.equal("its corner", 6, x.corner(0, 1, true));
        Checks.equal("its way", 8, x.corner(1, 0, true));

        Edge.of(4, "(at most 16, one behind another)");
        LeadPark y = Texts.parkOf("way 0 0");
        for (int k = 2; k <= 16; k++) {
            Texts.wrongPark(y, "way", 3);
            Checks.equal("text " + k, k, Texts.park(y, "more 0 " + k + " 0"));
        }
        Checks.equal("one behind another", 16, y.corner(0, 15, false));

        Edge.of(4, "UnsupportedOperationException: there are 16");
        Checks.unsupported("a 17th", () -> Texts.park(y, "more 0 17 0"));
        Checks.isFalse("uses the tape up", y.end(1));
        Checks.unsupported("an empty 17th", () -> Texts.park(y, ""));
        Checks.equal("16 stay", 16, y.count(2));
        Checks.equal("16 corners stay", 16, y.corners(0));

        Edge.of(4, "Of several exceptions the one told first is thrown");
        Checks.illegal("17th and wrong", () -> Texts.park(y, "way 1"));
        Checks.equal("with its fault", 5, y.fault());
        Checks.isFalse("its tape is used up", y.end(1));

        Edge.of(4, "Uses the TAPE up: a text of THE PARK: how many there are");
        LeadPark z = Texts.parkOf("way 1 1");
        Checks.isFalse("no byte is left", z.end(1));
        Checks.equal("an empty text is left", 2, z.park());
        Checks.equal("no way came by it", 1, z.count(0));
        Texts.wrongPark(z, "x", 0);
        Checks.equal("nor of a wrong one", 3, z.park());
        Checks.equal("400 bytes", 4, Texts.park(z, padded("way 1", "2", 400)));
        Checks.equal("up to the last one", 2, z.corner(1, 0, true));

        Edge.of(4, "IllegalArgumentException: it is wrong");
        Checks.illegal("a text of the law", () -> Texts.park(z, "bar"));
        Checks.illegal("steps", () -> Texts.park(z, "123"));
        Checks.equal("four texts", 4, z.count(2));
    }

    // ---- promise 5

    /** A condition and what it is on the PLACE of the CORNERS 1 (11, 22) of the man and 2 (33, 44) of the dog. */
    private static void holds(String condition, boolean due) {
        LeadPark x = Texts.parkOf("way 0 0 11 22;way 0 0 0 0 33 44");
        Texts.law(x, "bar if " + condition);
        Checks.equal(condition, due ? 1 : 0, x.shut(0, 1, 1, 2) ? 1 : 0);
    }

    private static void lawLines() {
        Edge.of(5, "LINE { ; LINE }, at most 12");
        LeadPark x = Texts.parkOf("way 1 1");
        Checks.equal("12", 12, Texts.law(x, Texts.repeated("bar if 1<1", ";", 11) + ";bar if 0<1"));
        Checks.isTrue("the 12th holds", x.shut(0, 0, 0, 0));
        Checks.equal("12 without if", 12, Texts.law(x, Texts.repeated("bar", " ; ", 12)));
        Checks.equal("the first alone holds", 12, Texts.law(x, "bar;" + Texts.repeated("bar if 1<1", ";", 11)));
        Checks.isTrue("then it is shut", x.shut(0, 0, 0, 0));

        Edge.of(5, "of a LINE too many");
        Texts.wrongLaw(x, Texts.repeated("bar", ";", 13), 48);
        Texts.wrongLaw(x, Texts.repeated("bar", ";", 12) + " ;  bar if", 51);
        Texts.wrongLaw(x, Texts.repeated("bar", ";", 12) + ";", 48);
        Texts.wrongLaw(x, Texts.repeated("bar", ";", 12) + ";;", 48);
        Checks.equal("12 stay", 12, x.count(3));

        Edge.of(5, "A text that is empty, or blanks alone, has no LINE.");
        Checks.equal("empty", 0, Texts.law(x, ""));
        Checks.equal("it is a law", 0, x.count(3));
        Checks.isFalse("by which nothing is shut", x.shut(0, 0, 0, 0));
        Texts.law(x, "bar");
        Checks.equal("400 blanks", 0, Texts.law(x, blanks(400)));
        Checks.isFalse("nor by this", x.shut(0, 0, 0, 0));
        Checks.equal("no fault", NONE, x.fault());

        Edge.of(5, "bar [ if C ]");
        Texts.law(x, "bar");
        Checks.isTrue("without if it holds", x.shut(0, 0, 0, 0));
        Texts.law(x, "bar;bar if 1<1");
        Checks.isTrue("whatever the next one says", x.shut(0, 0, 0, 0));
        Texts.law(x, "bar if 1<1;bar");
        Checks.isTrue("or the one before", x.shut(0, 0, 0, 0));
        Texts.law(x, "bar if 1<1;bar if 1<1");
        Checks.isFalse("none holds", x.shut(0, 0, 0, 0));
    }

    private static void lawDepth() {
        Edge.of(5, "( and not within one another at most 6 deep");
        holds("((((((1<2))))))", true);
        holds("((((((1>2))))))", false);
        holds("not not not not not not 1<2", true);
        holds("not not not not not not 1>2", false);
        holds("not not not not not 1<2", false);
        holds("not(not(not(1>2)))", true);
        holds("((((((1<2)))))) and ((((((1<2)))))) or ((((((1>2))))))", true);
        holds("not not not not not not 1<2 and not not not not not not 1<2 and ((((((1<2))))))", true);
        holds("((((((1<2)or(1>2)))))) and (((((1>2))))or(1<2))", true);
        holds("(((((not 1<2 or not 1<2 or (1<2))))))", true);
        holds("1>2 or 1<2 and (1>2 or 1<2 and (1>2 or 1<2 and (1>2 or 1<2 and (1>2 or 1<2 and (1>2 or 1<2 and (1<2))))))",
                true);
        holds("1<2 and 1>2 or (1<2 and 1>2 or (1<2 and 1>2 or (1<2 and 1>2 or (1<2 and 1>2 or (1<2 and 1>2 or (1>2))))))",
                false);

        Edge.of(5, "the ( or not that is a 7th one deep");
        LeadPark x = new LeadPark();
        Texts.wrongLaw(x, "bar if (((((((1<2)))))))", 13);
        Texts.wrongLaw(x, "bar if not not not not not not not 1<2", 31);
        Texts.wrongLaw(x, "bar if not not not not not not (1<2)", 31);
        Texts.wrongLaw(x, "bar if ((((((not 1<2))))))", 13);
        Texts.wrongLaw(x, "bar if ((((((1<2 and not 1<2))))))", 21);
        Texts.wrongLaw(x, "bar if ((((((1<2) or (1<2 and (1<2)))))))", 30);
        Texts.wrongLaw(x, "bar if not(not(not(not 1<2)))", 19);
        Texts.wrongLaw(x, "bar if ((((((1<2)))))) and (((((((", 33);
        Texts.wrongLaw(x, "bar;bar if (((((((", 17);
    }

    private static void lawNumbers() {
        Edge.of(5, "NUMBER is of 1 to 7 digits");
        holds("9999998 < 9999999", true);
        holds("9999999 < 9999999", false);
        holds("9999999 < 9999998", false);
        holds("0000009 > 8", true);
        holds("0 < 1 and 0000000 < 0000001", true);
        holds("0 > 0000000", false);

        Edge.of(5, "a number of more digits");
        LeadPark x = new LeadPark();
        Texts.wrongLaw(x, "bar if 10000000 > 1", 7);
        Texts.wrongLaw(x, "bar if 00000000 > 1", 7);
        Texts.wrongLaw(x, "bar if 1 > 10000000", 11);
        Texts.wrongLaw(x, "bar if 1 + 12345678 > 1", 11);
        Texts.wrongLaw(x, "bar if 1 > 1+99999999999999999999999", 13);

        Edge.of(5, "SUM < SUM | SUM > SUM");
        holds("7 < 7", false);
        holds("7 > 7", false);
        holds("6 < 7", true);
        holds("7 > 6", true);
        holds("7 < 6", false);
        holds("6 > 7", false);

        Edge.of(5, "PART { + PART }");
        String nines = Texts.repeated("9999999", "+", 23);
        holds(nines + ">" + nines, false);
        holds(nines + "+1>" + nines, true);
        holds(nines + "<" + nines + "+1", true);
        holds("0<" + Texts.repeated("9999999", "+", 48), true);
        holds(Texts.repeated("9999999", "+", 48) + "<0", false);
        LeadPark y = Texts.parkOf("way 0 0;way 999 999");
        Texts.law(y, "bar if " + Texts.repeated("far", "+", 95) + " > 1");
        Checks.isTrue("95 times the greatest far", y.shut(0, 0, 1, 0));
        Texts.law(y, "bar if " + Texts.repeated("1", "+", 190) + "<191");
        Checks.isTrue("190 ones below", y.shut(0, 0, 1, 0));
        Texts.law(y, "bar if " + Texts.repeated("1", "+", 190) + "<190");
        Checks.isFalse("190 ones", y.shut(0, 0, 1, 0));
    }

    private static void lawMeaning() {
        Edge.of(5, "C: ALL { or ALL }; ALL: ATOM { and ATOM }");
        holds("1<2 or 1>2 and 1>2", true);
        holds("1>2 and 1>2 or 1<2", true);
        holds("1>2 and 1<2 or 1>2", false);
        holds("(1<2 or 1<2) and 1>2", false);
        holds("1<2 and (1>2 or 1<2)", true);
        holds("1>2 or 1>2 or 1<2", true);
        holds("1<2 and 1<2 and 1>2", false);
        holds("1<2 and 1>2 or 1<2 and 1<2", true);
        holds("1<2 and 1>2 or 1<2 and 1>2", false);
        holds("1<2" + Texts.repeated(" or 1>2", "", 55), true);
        holds("1>2" + Texts.repeated(" or 1>2", "", 54) + " or 1<2", true);
        holds("1<2" + Texts.repeated(" and 1<2", "", 46) + " and 1>2", false);

        Edge.of(5, "not ATOM | ( C )");
        holds("not 1<2 and 1>2", false);
        holds("not (1<2 and 1>2)", true);
        holds("not 1<2 or 1<2", true);
        holds("not (1<2 or 1<2)", false);
        holds("1<2 and not 1>2", true);
        holds("not 1<2", false);

        Edge.of(5, "man, dog: numbers of the CORNERS; far: FAR; mx, my, dx, dy: X and Y of both");
        holds("man>0 and man<2", true);
        holds("dog>1 and dog<3", true);
        holds("mx>10 and mx<12", true);
        holds("my>21 and my<23", true);
        holds("dx>32 and dx<34", true);
        holds("dy>43 and dy<45", true);
        holds("far>967 and far<969", true);
        LeadPark x = Texts.parkOf("way " + corners(29) + " 999 0;way " + corners(29) + " 0 999");
        Texts.law(x, "bar if man > 28 and dog > 28 and far > 1996001 and mx > 998 and my < 1 and dx < 1 and dy > 998");
        Checks.isTrue("the greatest of all", x.shut(0, 29, 1, 29));
        Texts.law(x, "bar if man > 29 or dog > 29 or far > 1996002 or mx > 999 or dy > 999 or my < 0 or dx < 0");
        Checks.isFalse("and none above", x.shut(0, 29, 1, 29));
        Texts.law(x, "bar if man < 1 and dog < 1 and far < 1");
        Checks.isTrue("the least of all", x.shut(0, 0, 1, 0));
        Texts.law(x, "bar if man < 0 or dog < 0 or far < 0");
        Checks.isFalse("and none below", x.shut(0, 0, 1, 0));
    }

    private static void lawWords() {
        Edge.of(5, "Words are as long as a to z go on");
        holds("1<2and3<4or5<4", true);
        holds("not(1>2)and man<2and dog>1", true);
        LeadPark x = new LeadPark();
        Checks.equal("a sign or a number ends a word", 3, Texts.law(x, "bar if1<2;bar if(1<2);bar if not1<2"));
        Texts.wrongLaw(x, "barif 1<2", 0);
        Texts.wrongLaw(x, "bar ifman<2", 4);
        Texts.wrongLaw(x, "bar if notman<2", 7);
        Texts.wrongLaw(x, "bar if 1<2andman<2", 10);
        Texts.wrongLaw(x, "bar if man2<2", 10);

        Edge.of(5, "a word that is none");
        for (String word : new String[] {"mann", "ma", "m", "mxx", "mz", "d", "do", "fa", "fars", "x", "y", "bar", "if",
            "and", "or"}) {
            Texts.wrongLaw(x, "bar if " + word + " < 1", 7);
            Texts.wrongLaw(x, "bar if 1 < " + word, 11);
        }
        Texts.wrongLaw(x, "bars", 0);
        Texts.wrongLaw(x, "ba", 0);
        Texts.wrongLaw(x, "bar iff 1<2", 4);
        Texts.wrongLaw(x, "bar not 1<2", 4);
        Texts.wrongLaw(x, "bar if 1<2 xor 1<2", 11);
        Texts.wrongLaw(x, "bar if 1<2 not 1<2", 11);
        Texts.wrongLaw(x, "bar if nor 1<2", 7);

        Edge.of(5, "between all there may be blanks (32), also ahead and behind");
        Checks.equal("many", 2, Texts.law(x, "  bar  if  not  (  1  <  man  +  2  )  ;  bar  "));
        Checks.equal("none", 2, Texts.law(x, "bar if(1<man+2)and not(far>1);bar"));
        Texts.wrongLaw(x, "bar\tif 1<2", 3);
        Texts.wrongLaw(x, "bar if 1<2\n", 10);

        Edge.of(5, "the begin of the first thing that cannot stand there");
        String[] wrongs = {";|0", "(|0", "5|0", "bar 5|4", "bar bar|4", "bar;;|4", "bar ( 1<2)|4", "bar if ;|7",
            "bar if )|7", "bar if ()|8", "bar if <|7", "bar if + 1|7", "bar if 1;|8", "bar if 1)|8", "bar if 1 and|9",
            "bar if 1 1|9", "bar if 1 man|9", "bar if 1 = 1|9", "bar if 1 - 1|9", "bar if 1 ++ 1|10", "bar if 1 +< 1|10",
            "bar if 1 <= 1|10", "bar if 1 << 1|10", "bar if 1 < ;|11", "bar if 1 < (1)|11", "bar if 1 < not 1|11",
            "bar if 1<1<1|10", "bar if 1<1>1|10", "bar if 1<1)|10", "bar if (1<1;|11", "bar if (1)<1|9",
            "bar if (1<1) 1|13", "bar if (1<1)(1<1)|12", "bar if (1<1)+1|12", "bar if 1<1 and;|14", "bar if 1<1 or )|14",
            "bar if 1<1 or or 1<1|14", "bar if 1<1 if 1<1|11", "bar if not;|10", "bar if not )|11", "bar if 1.5<1|8"};
        for (String wrong : wrongs) {
            int bar = wrong.indexOf('|');
            Texts.wrongLaw(x, wrong.substring(0, bar), Integer.parseInt(wrong.substring(bar + 1)));
        }

        Edge.of(5, "or the text's length, if more must come");
        for (String text : new String[] {"bar;", "bar if", "bar if 1", "bar if 1 +", "bar if 1 + man", "bar if 1 <",
            "bar if 1 < 2 +", "bar if 1 < 2 and", "bar if 1 < 2 or", "bar if not", "bar if (", "bar if (1", "bar if (1<2",
            "bar if (1<2 and", "bar if (1<2) or", "bar if ((1<2)", "bar if 1<2;"}) {
            Texts.wrongLaw(x, text, text.length());
            Texts.wrongLaw(x, text + " ", text.length() + 1);
            Texts.wrongLaw(x, padded(text, "", 400), 400);
        }
    }

    private static void lawAsAWhole() {
        Edge.of(5, "(a text, in place of the one before)");
        LeadPark x = Texts.parkOf("way 1 1 2 2");
        Texts.law(x, "bar if man < 1;bar if man < 1");
        Texts.law(x, "bar if man > 0");
        Checks.equal("its lines", 1, x.count(3));
        Checks.isFalse("the one before is gone", x.shut(0, 0, 0, 0));
        Checks.isTrue("the new one is there", x.shut(0, 1, 0, 0));
        Texts.law(x, "");
        Checks.isFalse("and gone", x.shut(0, 1, 0, 0));

        Edge.of(5, "Of a wrong text nothing stays.");
        LeadPark y = Texts.parkOf("way 1 1 2 2");
        Texts.wrongLaw(y, "bar;bar;", 8);
        Checks.equal("there is no law", NONE, y.count(3));
        Checks.isFalse("and nothing shut", y.shut(0, 0, 0, 0));
        Texts.law(y, "bar if man > 0");
        Texts.wrongLaw(y, "bar;x", 4);
        Texts.wrongLaw(y, ";", 0);
        Checks.equal("the law is the one before", 1, y.count(3));
        Checks.isFalse("with what it allows", y.shut(0, 0, 0, 0));
        Checks.isTrue("and bars", y.shut(0, 1, 0, 0));

        Edge.of(5, "Uses the TAPE up: THE LAW: how many LINES");
        Checks.equal("3", 3, Texts.law(y, "bar;bar;bar"));
        Checks.isFalse("no byte is left", y.end(1));
        Checks.equal("but an empty text", 0, y.law());
        Checks.equal("400 bytes", 1, Texts.law(y, padded("bar if 1", "<1", 400)));
        Checks.equal("400 bytes full", 1, Texts.law(y, "bar if 1<1" + Texts.repeated("or1<1", "", 78)));
        Checks.isFalse("it holds nowhere", y.shut(0, 0, 0, 0));
        Texts.law(y, "bar if 1<1" + Texts.repeated("or1<1", "", 77) + "or0<1");
        Checks.isTrue("its last byte counts", y.shut(0, 0, 0, 0));

        Edge.of(5, "IllegalArgumentException: the text is wrong");
        Checks.illegal("a text of the park", () -> Texts.law(y, "way 1 1"));
        Checks.isFalse("uses the tape up", y.end(1));
        Checks.illegal("400 bytes and wrong", () -> Texts.law(y, padded("bar", "x", 400)));
        Checks.equal("its fault", 399, y.fault());
    }

    // ---- promise 6

    private static void fault() {
        Edge.of(6, "NONE without one, and ahead of any");
        LeadPark x = new LeadPark();
        Checks.equal("ahead of any", NONE, x.fault());
        Texts.park(x, "way 1 1");
        Checks.equal("a right text", NONE, x.fault());
        Texts.law(x, "bar");
        Checks.equal("a right law", NONE, x.fault());

        Edge.of(6, "The first wrong byte of the latest text that was read");
        Texts.wrongPark(x, ";", 0);
        Checks.equal("it stays 0", 0, x.fault());
        Texts.wrongLaw(x, "bar x", 4);
        Texts.wrongPark(x, padded("way", "", 400), 400);
        x.feed(0, 0, 0, 0, 0);
        x.end(0);
        Checks.equal("the tape alone is not read", 400, x.fault());
        Texts.judge(x, 0, 0, 0, "");
        Checks.equal("steps are no text", 400, x.fault());
        Checks.illegal("nor wrong ones", () -> Texts.judge(x, 0, 0, 0, "x"));
        Checks.equal("so it stays", 400, x.fault());
        Texts.law(x, "");
        Checks.equal("the latest is right", NONE, x.fault());
        Texts.wrongLaw(x, "bar 5 ; x", 4);
        Texts.park(x, "");
        Checks.equal("of the park, too", NONE, x.fault());
    }
}
