/** Boundary cases of promises 15 to 19: LOOKS, WAYS, MAY and SURE, LEAST and MOST, MOVED. */
public final class LookEdgeTest {
    private static final Edge EDGE = new Edge("LookEdgeTest");
    private static final int LEAST = Integer.MIN_VALUE;
    private static final int GREATEST = Integer.MAX_VALUE;
    private static final String ONE = "tell book 90; book 90; reader 5; = 0";
    private static final String BACK = "tell book 90; book 90; reader 5 back 2; = 0";

    public static void main(String[] args) {
        lookAsTold();
        looksAreMany();
        waysWithoutLooks();
        colours();
        oneHour();
        firstLookAndPace();
        firstLookAndLent();
        nextLookAndPace();
        nextLookAndLent();
        nextLookAndBack();
        nextLookAndLoans();
        byHours();
        byNumbers();
        laterReaders();
        waysAreMany();
        loansComeLater();
        mayAndSure();
        leastAndMost();
        movedLooks();
        askOfNone();
        EDGE.end();
    }

    // ---- promise 15

    private static void lookAsTold() {
        EDGE.holds("15: HOUR 0", ONE, "look 0 0 0 1 = 0");
        EDGE.holds("15: HOUR 8759", ONE, "look 0 8759 0 1 = 0");
        EDGE.holds("15: HOUR 8760", ONE, "look 0 8760 0 1 = refused", "look 0 " + GREATEST + " 0 1 = refused");
        EDGE.holds("15: below HOUR 0", ONE, "look 0 -1 0 1 = refused", "look 0 " + LEAST + " 0 1 = refused");
        EDGE.holds("15: COLOUR 0 to 3", ONE, Edge.each(4, i -> "look 0 0 " + i + " 1 = " + i));
        EDGE.holds("15: COLOUR 4", ONE, "look 0 0 4 1 = refused", "look 0 0 " + GREATEST + " 1 = refused");
        EDGE.holds("15: COLOUR below 0", ONE, "look 0 0 -1 1 = refused", "look 0 0 " + LEAST + " 1 = refused");
        EDGE.holds("15: page 1", ONE, "look 0 0 0 1 = 0");
        EDGE.holds("15: page 401", ONE, "look 0 0 0 401 = 0");
        EDGE.holds("15: page 402", ONE, "look 0 0 0 402 = refused", "look 0 0 0 " + GREATEST + " = refused");
        EDGE.holds("15: page 0", ONE, "look 0 0 0 0 = refused", "look 0 0 0 -1 = refused",
                "look 0 0 0 " + LEAST + " = refused");
        EDGE.holds("15: a page that the BOOK has not", "tell book 1; reader 5; = 0", "look 0 0 0 401 = 0");
        EDGE.holds("15: a COLOUR that nobody has", ONE, "look 0 0 3 1 = 0", "ways 0 = 0");
        EDGE.holds("15: ahead of the latest LOAN", ONE, "loan 0 0 50 1 = 5", "look 0 3 0 1 = 0");
        EDGE.holds("15: two that are alike", ONE, "look 0 3 0 1 = 0", "look 0 3 0 1 = 1", "count 3 = 2");
        EDGE.holds("15: it is no LOAN's nor DROP's begin", ONE, "look 0 50 0 1 = 0", "count 6 = 0",
                "loan 0 0 0 1 = 5");
        EDGE.holds("15: no such BOOK, ahead", ONE, "look -1 0 0 1 = no element", "look 2 0 0 1 = no element",
                "look 10 0 0 1 = no element", "look 2 -1 4 402 = no element",
                "look " + LEAST + " 0 0 1 = no element", "look " + GREATEST + " 0 0 1 = no element", "count 10 = 0");
    }

    private static void looksAreMany() {
        EDGE.holds("15: 6 of a BOOK, and no more", ONE, Edge.each(6, i -> "look 0 " + i + " 0 1 = " + i),
                "look 0 6 0 1 = refused", "look 1 6 0 1 = 6", "count 3 = 7");
        EDGE.holds("15: refused ones are not among them", ONE, Edge.each(9, i -> "look 0 0 4 1 = -1"),
                "look 0 0 0 1 = 0", "count 3 = 1", "count 10 = 9");
        String[] full = Edge.each(24, i -> "look " + i / 6 + " " + i % 6 + " 0 1 = " + i);
        EDGE.holds("15: 24, and no more", "tell " + "book 9;".repeat(5) + "reader 1; = 0", full,
                "look 4 0 0 1 = refused", "look 0 0 0 1 = refused", "count 3 = 24", "whose 23 1 = 0",
                "whose 24 0 = no element");
        EDGE.holds("15: 24 over ten BOOKS", "tell " + "book 9;".repeat(10) + "reader 1; = 0",
                Edge.each(24, i -> "look " + i % 10 + " " + i + " 0 1 = " + i), "look 9 30 0 1 = refused",
                "ways 9 = 1");
        EDGE.holds("15: no such BOOK goes ahead of 24", "tell " + "book 9;".repeat(5) + "reader 1; = 0", full,
                "look 5 0 0 1 = no element", "count 10 = 0");
    }

    // ---- promise 16

    private static void waysWithoutLooks() {
        EDGE.holds("16: 1 without LOOKS", ONE, "ways 0 = 1", "ways 1 = 1");
        EDGE.holds("16: 1 without LOOKS, without READERS", "tell book 9; = 0", "ways 0 = 1");
        EDGE.holds("16: LOOKS of another BOOK do not count", ONE, "look 1 0 0 9 = 0", "ways 1 = 0", "ways 0 = 1");
        EDGE.holds("16: a LOOK without READERS", "tell book 9; = 0", "look 0 0 0 1 = 0", "ways 0 = 0");
        EDGE.holds("16: no such BOOK", ONE, "ways -1 = no element", "ways 2 = no element", "ways 10 = no element",
                "ways " + LEAST + " = no element", "ways " + GREATEST + " = no element");
    }

    private static void colours() {
        String four = "tell book 9; reader 1; reader 1 colour 1; reader 1 colour 2; reader 1 colour 3; = 0";
        for (int colour = 0; colour < 4; colour++) {
            EDGE.holds("16: a READER of COLOUR " + colour, four, "look 0 0 " + colour + " 1 = 0", "ways 0 = 1",
                    "whose 0 1 = " + colour);
        }
        EDGE.holds("16: COLOUR 0 without", "tell book 9; reader 1; reader 1 colour 0; = 0", "look 0 0 0 1 = 0",
                "ways 0 = 2");
    }

    private static void oneHour() {
        EDGE.holds("16: two of one HOUR, one READER", ONE, "look 0 5 0 1 = 0", "look 0 5 0 1 = 1", "ways 0 = 0");
        EDGE.holds("16: two of two HOURS, one READER", ONE, "look 0 5 0 1 = 0", "look 0 6 0 1 = 1", "ways 0 = 1");
        EDGE.holds("16: two of one HOUR, two READERS", "tell book 9; reader 1; reader 1; = 0", "look 0 5 0 1 = 0",
                "look 0 5 0 1 = 1", "ways 0 = 2", "look 0 5 0 1 = 2", "ways 0 = 0");
        EDGE.holds("16: two of one HOUR, but of two BOOKS", ONE, "look 0 5 0 1 = 0", "look 1 5 0 1 = 1",
                "ways 0 = 1", "ways 1 = 1");
        EDGE.holds("16: two of one HOUR with one between them in the telling", ONE, "look 0 5 0 1 = 0",
                "look 0 4 0 1 = 1", "look 0 5 0 1 = 2", "ways 0 = 0");
    }

    private static void firstLookAndPace() {
        EDGE.holds("16: the first, page 1 without a LOAN", ONE, "look 0 0 0 1 = 0", "ways 0 = 1");
        EDGE.holds("16: the first, page 2 without a LOAN", ONE, "look 0 9 0 2 = 0", "ways 0 = 0");
        EDGE.holds("16: the first, page less 1 is PACE by LENT", ONE, "loan 0 0 0 2 = 10", "look 0 2 0 11 = 0",
                "ways 0 = 1");
        EDGE.holds("16: the first, page less 1 is one more", ONE, "loan 0 0 0 2 = 10", "look 0 2 0 12 = 0",
                "ways 0 = 0");
        EDGE.holds("16: the first, by PACE and not by what he read", "tell book 9; reader 60 stops 1; = 0",
                "loan 0 0 0 1 = 1", "look 0 1 0 61 = 0", "ways 0 = 1");
        EDGE.holds("16: the first, at page 401", "tell book 9; reader 60; = 0", "loan 0 0 0 7 = 9",
                "look 0 7 0 401 = 0", "ways 0 = 1", "look 0 6 0 361 = 1", "ways 0 = 1");
        EDGE.holds("16: the first may lie low", ONE, "loan 0 0 0 24 = 90", "look 0 24 0 1 = 0", "ways 0 = 1");
    }

    private static void firstLookAndLent() {
        EDGE.holds("16: LENT, at the LOAN's first HOUR", ONE, "loan 0 0 5 3 = 15", "look 0 5 0 1 = 0", "ways 0 = 1",
                "look 0 5 0 2 = 1", "moved 0 = 2");
        EDGE.holds("16: LENT, none ahead of the LOAN's first HOUR", ONE, "loan 0 0 5 3 = 15", "look 0 5 0 2 = 0",
                "ways 0 = 0");
        EDGE.holds("16: LENT, one ahead of its second", ONE, "loan 0 0 5 3 = 15", "look 0 6 0 6 = 0", "ways 0 = 1");
        EDGE.holds("16: LENT, no two ahead of its second", ONE, "loan 0 0 5 3 = 15", "look 0 6 0 7 = 0",
                "ways 0 = 0");
        EDGE.holds("16: LENT, all behind its last", ONE, "loan 0 0 5 3 = 15", "look 0 8 0 16 = 0", "ways 0 = 1");
        EDGE.holds("16: LENT, no more much later", ONE, "loan 0 0 5 3 = 15", "look 0 8759 0 17 = 0", "ways 0 = 0");
        EDGE.holds("16: LENT, of two LOANS", ONE, "loan 0 0 5 3 = 15", "loan 0 0 10 2 = 10", "look 0 12 0 26 = 0",
                "ways 0 = 1");
        EDGE.holds("16: LENT, of two LOANS and no more", ONE, "loan 0 0 5 3 = 15", "loan 0 0 10 2 = 10",
                "look 0 12 0 27 = 0", "ways 0 = 0");
        EDGE.holds("16: LENT, of that BOOK alone", ONE, "loan 0 1 5 3 = 15", "look 0 12 0 2 = 0", "ways 0 = 0");
        EDGE.holds("16: LENT, of that READER alone", "tell book 90; reader 5; reader 5 colour 1; = 0",
                "loan 1 0 5 3 = 15", "look 0 12 0 2 = 0", "ways 0 = 0");
        EDGE.holds("16: LENT, a refused LOAN is none", ONE, "loan 0 0 5 25 = refused", "look 0 40 0 2 = 0",
                "ways 0 = 0");
        EDGE.holds("16: LENT, 200 LOANS", "tell book 400; reader 1; = 0",
                Edge.each(200, i -> "loan 0 0 " + i + " 1 = 1"), "look 0 200 0 201 = 0", "ways 0 = 1",
                "look 0 199 0 201 = 1", "ways 0 = 0");
    }

    private static void nextLookAndPace() {
        String[] lent = {ONE, "loan 0 0 0 9 = 45", "look 0 2 0 4 = 0"};
        EDGE.holds("16: the next, PACE by LENT on", lent, "look 0 5 0 19 = 1", "ways 0 = 1");
        EDGE.holds("16: the next, one more", lent, "look 0 5 0 20 = 1", "ways 0 = 0");
        EDGE.holds("16: the next, the same page", lent, "look 0 5 0 4 = 1", "ways 0 = 1");
        EDGE.holds("16: the next, one less without BACK", lent, "look 0 5 0 3 = 1", "ways 0 = 0");
        EDGE.holds("16: the next, by the one just ahead", lent, "look 0 3 0 5 = 1", "look 0 4 0 10 = 2",
                "ways 0 = 1");
        EDGE.holds("16: the next, not by the one before that", lent, "look 0 3 0 5 = 1", "look 0 4 0 11 = 2",
                "ways 0 = 0", "moved 0 = 6");
    }

    private static void nextLookAndLent() {
        String[] gap = {ONE, "loan 0 0 0 2 = 10", "loan 0 0 5 2 = 10"};
        EDGE.holds("16: LENT between, none", gap, "look 0 2 0 4 = 0", "look 0 5 0 5 = 1", "ways 0 = 0");
        EDGE.holds("16: LENT between, none but the same page", gap, "look 0 2 0 4 = 0", "look 0 5 0 4 = 1",
                "ways 0 = 1");
        EDGE.holds("16: LENT between, one at the end", gap, "look 0 2 0 4 = 0", "look 0 6 0 9 = 1", "ways 0 = 1");
        EDGE.holds("16: LENT between, one and no more at the end", gap, "look 0 2 0 4 = 0", "look 0 6 0 10 = 1",
                "ways 0 = 0");
        EDGE.holds("16: LENT between, one at the begin", gap, "look 0 1 0 4 = 0", "look 0 4 0 9 = 1", "ways 0 = 1");
        EDGE.holds("16: LENT between, one and no more at the begin", gap, "look 0 1 0 4 = 0", "look 0 4 0 10 = 1",
                "ways 0 = 0");
        EDGE.holds("16: LENT between, of one LOAN's middle", ONE, "loan 0 0 0 9 = 45", "look 0 4 0 4 = 0",
                "look 0 5 0 9 = 1", "ways 0 = 1", "look 0 6 0 15 = 2", "ways 0 = 0");
    }

    private static void nextLookAndBack() {
        String[] once = {BACK, "loan 0 0 0 2 = 10", "loan 0 0 5 2 = 10"};
        EDGE.holds("16: BACK by one LOAN", once, "look 0 2 0 9 = 0", "look 0 9 0 7 = 1", "ways 0 = 1");
        EDGE.holds("16: BACK by one LOAN, one less", once, "look 0 2 0 9 = 0", "look 0 9 0 6 = 1", "ways 0 = 0");
        String[] twice = {BACK, "loan 0 0 0 2 = 10", "loan 0 0 5 2 = 10", "loan 0 0 7 2 = 10"};
        EDGE.holds("16: BACK by two LOANS", twice, "look 0 2 0 9 = 0", "look 0 9 0 5 = 1", "ways 0 = 1");
        EDGE.holds("16: BACK by two LOANS, one less", twice, "look 0 2 0 9 = 0", "look 0 9 0 4 = 1", "ways 0 = 0");
        EDGE.holds("16: BACK by no LOAN", BACK, "loan 0 0 0 9 = 45", "look 0 2 0 9 = 0", "look 0 9 0 8 = 1",
                "ways 0 = 0");
        EDGE.holds("16: BACK by LOANS of another BOOK", BACK, "loan 0 0 0 2 = 10", "loan 0 1 5 2 = 10",
                "look 0 2 0 9 = 0", "look 0 9 0 8 = 1", "ways 0 = 0");
        EDGE.holds("16: BACK by LOANS of another READER",
                "tell book 90; reader 5 back 2; reader 5 colour 1 back 2; = 0", "loan 0 0 0 2 = 10",
                "loan 1 0 5 2 = 10", "look 0 2 0 9 = 0", "look 0 9 0 8 = 1", "ways 0 = 0");
        EDGE.holds("16: BACK of 20 to below page 1", "tell book 90; reader 5 back 20; = 0", "loan 0 0 0 2 = 10",
                "loan 0 0 5 2 = 10", "look 0 2 0 9 = 0", "look 0 9 0 1 = 1", "ways 0 = 1");
    }

    private static void nextLookAndLoans() {
        String[] one = {BACK, "loan 0 0 0 2 = 10", "loan 0 0 5 2 = 10"};
        EDGE.holds("16: a LOAN that begins at the first one's HOUR counts", one, "look 0 5 0 9 = 0",
                "look 0 6 0 7 = 1", "ways 0 = 1");
        EDGE.holds("16: one that begins ahead of it does not", one, "look 0 6 0 9 = 0", "look 0 7 0 8 = 1",
                "ways 0 = 0");
        EDGE.holds("16: one that begins at the second one's HOUR does not", one, "look 0 4 0 9 = 0",
                "look 0 5 0 8 = 1", "ways 0 = 0");
        EDGE.holds("16: one that begins just ahead of the second one's does", one, "look 0 4 0 9 = 0",
                "look 0 6 0 7 = 1", "ways 0 = 1");
        EDGE.holds("16: a LOAN at HOUR 0 and a LOOK at HOUR 0", "tell book 90; reader 5 back 2; = 0",
                "loan 0 0 0 2 = 10", "look 0 0 0 1 = 0", "look 0 2 0 11 = 1", "ways 0 = 1");
    }

    private static void byHours() {
        EDGE.holds("16: by HOURS, not as they were told", ONE, "loan 0 0 0 9 = 45", "look 0 8 0 30 = 0",
                "look 0 2 0 5 = 1", "look 0 5 0 15 = 2", "ways 0 = 1", "ends 0 0 0 = 30");
        EDGE.holds("16: six, told backwards", ONE, "loan 0 0 0 9 = 45",
                Edge.each(6, i -> "look 0 " + (8 - i) + " 0 " + (26 - 5 * i) + " = " + i), "ways 0 = 1",
                "whose 0 1 = 0", "whose 5 1 = 0", "ends 0 0 0 = 26", "ends 0 0 1 = 26", "moved 0 = 0");
    }

    /** Each LOOK keeps its number and COLOUR, wherever its HOUR puts it. */
    private static void byNumbers() {
        String four = "tell book 90; reader 5; reader 6 colour 1; reader 7 colour 2; reader 8 colour 3; = 0";
        EDGE.holds("16: of four COLOURS, told backwards", four,
                Edge.each(4, i -> "look 0 " + (8 - i) + " " + i + " 1 = " + i), "ways 0 = 1",
                Edge.each(4, i -> "whose " + i + " 1 = " + i), "moved 0 = 0");
        EDGE.holds("16: of four COLOURS, the last told first", four, "look 0 5 3 1 = 0", "look 0 2 2 1 = 1",
                "look 0 4 1 1 = 2", "look 0 3 0 1 = 3", "whose 0 1 = 3", "whose 1 1 = 2", "whose 2 1 = 1",
                "whose 3 1 = 0");
        EDGE.holds("16: of one COLOUR, the middle one told last", "tell book 90; reader 5; reader 5; = 0",
                "loan 0 0 0 1 = 5", "look 0 3 0 1 = 0", "look 0 5 0 1 = 1", "look 0 4 0 6 = 2", "whose 2 1 = 0",
                "whose 0 1 = 1", "whose 1 1 = 1");
        EDGE.holds("19: the middle one by its HOUR, told first", ONE, "loan 0 0 0 9 = 45", "look 0 5 0 30 = 0",
                "look 0 3 0 9 = 1", "look 0 8 0 9 = 2", "moved 0 = 1");
        EDGE.holds("19: the last one by its HOUR, told first", ONE, "loan 0 0 0 9 = 45", "look 0 8 0 8 = 0",
                "look 0 3 0 9 = 1", "look 0 4 0 9 = 2", "moved 0 = 1");
    }

    private static void laterReaders() {
        for (int reader = 1; reader < 8; reader++) {
            String[] lent = {"tell book 90;" + "reader 9;".repeat(reader) + "reader 5 colour 1 back 2; = 0",
                "loan " + reader + " 0 0 2 = 10", "loan " + reader + " 0 5 2 = 10", "look 0 2 1 9 = 0"};
            String name = "16: READER " + reader + ", ";
            EDGE.holds(name + "PACE by LENT on", lent, "look 0 7 1 19 = 1", "ways 0 = 1",
                    "ends " + reader + " 0 0 = 19");
            EDGE.holds(name + "one more", lent, "look 0 7 1 20 = 1", "ways 0 = 0");
            EDGE.holds(name + "BACK by one LOAN", lent, "look 0 7 1 7 = 1", "ways 0 = 1");
            EDGE.holds(name + "one less", lent, "look 0 7 1 6 = 1", "ways 0 = 0");
        }
    }

    private static void waysAreMany() {
        String eight = "tell book 9;" + "reader 1;".repeat(8) + " = 0";
        EDGE.holds("16: 8 to the 6th", eight, Edge.each(6, i -> "look 0 " + i + " 0 1 = " + i), "ways 0 = 262144",
                "whose 0 0 = 255", "whose 5 1 = -1", "ends 7 0 0 = 1", "ends 7 0 1 = 1", "moved 0 = 0");
        EDGE.holds("16: 8 by 7 by 6 by 5 by 4 by 3", eight, Edge.each(6, i -> "look 0 5 0 1 = " + i),
                "ways 0 = 20160");
        EDGE.holds("16: 6 by 5 by 4 by 3 by 2", "tell book 9;" + "reader 1;".repeat(6) + " = 0",
                Edge.each(6, i -> "look 0 5 0 1 = " + i), "ways 0 = 720");
        EDGE.holds("16: six of one HOUR, five READERS", "tell book 9;" + "reader 1;".repeat(5) + " = 0",
                Edge.each(6, i -> "look 0 5 0 1 = " + i), "ways 0 = 0", "moved 0 = 63");
    }

    private static void loansComeLater() {
        EDGE.holds("16: a LOAN that is told behind the LOOK counts", ONE, "look 0 9 0 6 = 0", "ways 0 = 0",
                "loan 0 0 0 1 = 5", "ways 0 = 1");
        EDGE.holds("16: a DROP does not", ONE, "loan 0 0 0 1 = 5", "look 0 1 0 6 = 0", "drop 0 1 50 = 0",
                "drop 0 1 0 = 1", "ways 0 = 1");
    }

    // ---- promise 17

    private static void mayAndSure() {
        EDGE.holds("17: no WAYS", ONE, "look 0 0 0 9 = 0", "whose 0 0 = 0", "whose 0 1 = -1");
        EDGE.holds("17: no WAYS by another LOOK", ONE, "look 0 0 0 1 = 0", "look 0 1 0 9 = 1", "whose 0 0 = 0",
                "whose 0 1 = -1", "whose 1 0 = 0", "whose 1 1 = -1");
        EDGE.holds("17: no WAYS for another BOOK", ONE, "look 0 0 0 1 = 0", "look 1 1 0 9 = 1", "whose 0 0 = 1",
                "whose 0 1 = 0");
        EDGE.holds("17: READER 0 is sure", ONE, "look 0 0 0 1 = 0", "whose 0 0 = 1", "whose 0 1 = 0");
        EDGE.holds("17: READER 7 is sure", "tell book 9;" + "reader 1;".repeat(7) + "reader 1 colour 1; = 0",
                "look 0 0 1 1 = 0", "whose 0 0 = 128", "whose 0 1 = 7");
        EDGE.holds("17: all eight may", "tell book 9;" + "reader 1;".repeat(8) + " = 0", "look 0 0 0 1 = 0",
                "whose 0 0 = 255", "whose 0 1 = -1");
        EDGE.holds("17: two may, none is sure", "tell book 9; reader 1; reader 1; = 0", "look 0 0 0 1 = 0",
                "whose 0 0 = 3", "whose 0 1 = -1");
        EDGE.holds("17: sure by what the others leave", "tell book 90; reader 5; reader 5; = 0", "loan 0 0 0 1 = 5",
                "look 0 1 0 1 = 0", "whose 0 0 = 3", "look 0 1 0 6 = 1", "whose 1 1 = 0", "whose 0 1 = 1");
        EDGE.holds("17: no such LOOK", ONE, "whose 0 0 = no element", "look 0 0 0 1 = 0", "whose 1 0 = no element",
                "whose -1 0 = no element", "whose 24 0 = no element", "whose " + LEAST + " 0 = no element",
                "whose " + GREATEST + " 0 = no element");
        EDGE.holds("17: another what", ONE, "look 0 0 0 1 = 0", "whose 0 -1 = no element", "whose 0 2 = no element",
                "whose 0 " + LEAST + " = no element", "whose 0 " + GREATEST + " = no element");
    }

    // ---- promise 18

    private static void leastAndMost() {
        EDGE.holds("18: without LOOKS", ONE, "ends 0 0 0 = 1", "ends 0 0 1 = 1");
        EDGE.holds("18: no WAYS", ONE, "look 0 0 0 9 = 0", "ends 0 0 0 = -1", "ends 0 0 1 = -1", "ends 0 1 0 = 1");
        EDGE.holds("18: one who can have none, no WAYS", "tell book 9; reader 1; reader 1 colour 1; = 0",
                "look 0 0 0 9 = 0", "ends 1 0 0 = -1", "ends 1 0 1 = -1");
        EDGE.holds("18: one who can have none", "tell book 9; reader 5; reader 1 colour 1; = 0", "loan 0 0 0 1 = 5",
                "look 0 1 0 6 = 0", "ends 1 0 0 = 1", "ends 1 0 1 = 1", "ends 0 0 0 = 6", "ends 0 0 1 = 6");
        EDGE.holds("18: one who may have none: 1 is the least", "tell book 90; reader 5; reader 5; = 0",
                "loan 0 0 0 1 = 5", "loan 1 0 1 1 = 5", "look 0 2 0 6 = 0", "ends 0 0 0 = 1", "ends 0 0 1 = 6");
        EDGE.holds("18: the last by its HOUR, though its page is less", "tell book 90; reader 5 back 3; = 0",
                "loan 0 0 0 2 = 10", "loan 0 0 2 1 = 5", "look 0 3 0 6 = 0", "look 0 2 0 9 = 1", "ends 0 0 0 = 6",
                "ends 0 0 1 = 6");
        EDGE.holds("18: page 401", "tell book 400; reader 60; = 0", "loan 0 0 0 7 = 400", "look 0 7 0 401 = 0",
                "ends 0 0 0 = 401", "ends 0 0 1 = 401");
        EDGE.holds("18: another what", ONE, "ends 0 0 -1 = no element", "ends 0 0 2 = no element",
                "ends 0 0 " + LEAST + " = no element", "ends 0 0 " + GREATEST + " = no element");
        EDGE.holds("18: no such READER, no such BOOK", ONE, "ends -1 0 0 = no element", "ends 1 0 0 = no element",
                "ends 0 -1 0 = no element", "ends 0 2 0 = no element", "ends 8 0 0 = no element",
                "ends 0 10 0 = no element", "ends " + LEAST + " 0 0 = no element",
                "ends 0 " + GREATEST + " 0 = no element");
    }

    // ---- promise 19

    private static void movedLooks() {
        EDGE.holds("19: without LOOKS", ONE, "moved 0 = 0");
        EDGE.holds("19: there are WAYS", ONE, "look 0 0 0 1 = 0", "look 0 1 0 1 = 1", "moved 0 = 0");
        EDGE.holds("19: the only one, without it is 1", ONE, "look 0 0 0 9 = 0", "moved 0 = 1");
        EDGE.holds("19: one of two", ONE, "look 0 0 0 1 = 0", "look 0 1 0 9 = 1", "moved 0 = 2");
        EDGE.holds("19: either of two", ONE, "look 0 0 0 1 = 0", "look 0 0 0 1 = 1", "moved 0 = 3");
        EDGE.holds("19: both would have to go: none", ONE, "look 0 0 0 8 = 0", "look 0 1 0 9 = 1", "ways 0 = 0",
                "moved 0 = 0");
        EDGE.holds("19: by their numbers in the room", ONE, "look 1 0 0 1 = 0", "look 0 0 0 1 = 1",
                "look 1 1 0 9 = 2", "look 0 0 0 1 = 3", "moved 0 = 10", "moved 1 = 4");
        EDGE.holds("19: the 24th", "tell " + "book 9;".repeat(4) + "reader 1; = 0",
                Edge.each(23, i -> "look " + i / 6 + " " + i % 6 + " 0 1 = " + i), "look 3 9 0 9 = 23",
                "moved 3 = 8388608", "moved 0 = 0");
        EDGE.holds("19: all six", ONE, Edge.each(6, i -> "look 0 0 0 1 = " + i), "moved 0 = 0");
        EDGE.holds("19: the first by its HOUR, told last", ONE, "loan 0 0 0 9 = 45", "look 0 5 0 9 = 0",
                "look 0 6 0 9 = 1", "look 0 1 0 30 = 2", "moved 0 = 4");
        EDGE.holds("19: no such BOOK", ONE, "moved -1 = no element", "moved 2 = no element", "moved 10 = no element",
                "moved " + LEAST + " = no element", "moved " + GREATEST + " = no element");
    }

    private static void askOfNone() {
        EDGE.holds("15 to 19: LOOKS are gone with a new room", ONE, "look 0 0 0 9 = 0", "tell book 90; reader 5; = 0",
                "ways 0 = 1", "moved 0 = 0", "whose 0 0 = no element", "look 0 0 0 1 = 0", "ways 0 = 1");
    }
}
