import java.nio.charset.StandardCharsets;

/** Tells texts to a park by its TAPE, which has to be empty. */
final class Texts {
    private Texts() {
    }

    static void tape(LeadPark park, String text) {
        byte[] bytes = text.getBytes(StandardCharsets.ISO_8859_1);
        for (int from = 0; from < bytes.length; from += 20) {
            park.feed(word(bytes, from), word(bytes, from + 4), word(bytes, from + 8),
                    word(bytes, from + 12), word(bytes, from + 16));
        }
        if (!park.end(bytes.length)) {
            throw new IllegalStateException("the text does not fit the tape");
        }
    }

    static int word(byte[] bytes, int from) {
        int word = 0;
        for (int k = from; k < from + 4; k++) {
            word = word << 8 | (k < bytes.length ? bytes[k] & 255 : 0);
        }
        return word;
    }

    static LeadPark parkOf(String text) {
        LeadPark park = new LeadPark();
        Checks.equal("park of " + text, 1, park(park, text));
        return park;
    }

    static int park(LeadPark park, String text) {
        tape(park, text);
        return park.park();
    }

    static int law(LeadPark park, String text) {
        tape(park, text);
        return park.law();
    }

    static int judge(LeadPark park, int way, int other, int lead, String steps) {
        tape(park, steps);
        return park.judge(way, other, lead);
    }

    /** A wrong text of the park: it throws, and its fault is where it is due. */
    static void wrongPark(LeadPark park, String text, int fault) {
        Checks.illegal("park of " + text, () -> park(park, text));
        Checks.equal("fault of " + text, fault, park.fault());
        Checks.equal("tape used up by " + text, 20, park.feed(0, 0, 0, 0, 0));
        park.end(0);
    }

    static void wrongLaw(LeadPark park, String text, int fault) {
        Checks.illegal("law of " + text, () -> law(park, text));
        Checks.equal("fault of " + text, fault, park.fault());
        Checks.equal("tape used up by " + text, 20, park.feed(0, 0, 0, 0, 0));
        park.end(0);
    }

    /** Twelve ways of 30 corners, all at one point. */
    static LeadPark largest() {
        LeadPark park = new LeadPark();
        String way = "way " + repeated("0 0", " ", 30);
        for (int k = 1; k <= 4; k++) {
            Checks.equal("park " + k + " of 12 ways", k, park(park, way + ";" + way + ";" + way));
        }
        return park;
    }

    static String repeated(String part, String between, int times) {
        StringBuilder all = new StringBuilder();
        for (int k = 0; k < times; k++) {
            all.append(k == 0 ? "" : between).append(part);
        }
        return all.toString();
    }
}
