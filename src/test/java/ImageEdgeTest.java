/** Boundary cases of promises 25 and 26, and of the calls that one object has. */
public final class ImageEdgeTest {
    private static final Edge EDGE = new Edge("ImageEdgeTest");
    private static final String TEXT = "tell book 30 parts 4; book 9; reader 5 back 1; reader 4 ends; = 0";

    public static void main(String[] args) {
        none();
        inPlaceOfAnother();
        again();
        whatIsKept();
        whatIsNotKept();
        fullRows();
        rooms();
        lastCalls();
        EDGE.end();
    }

    private static void none() {
        EDGE.holds("26: there is none, in a new object", "restore = false");
        EDGE.holds("26: there is none, in a room", TEXT, "loan 0 0 0 1 = 5", "restore = false", "slip 0 0 = 6");
        EDGE.holds("25: of an empty room", TEXT, "image = kept", "loan 0 0 0 1 = 5", "restore = true",
                "count 2 = 0", "slip 0 0 = 0", "read 0 0 0 = 0", "count 6 = 0", "loan 1 0 0 1 = 4");
        EDGE.holds("25: of no room", "image = kept", "restore = true", "count 0 = 0");
    }

    private static void inPlaceOfAnother() {
        EDGE.holds("25: in place of another one", TEXT, "loan 0 0 0 1 = 5", "image = kept", "loan 0 0 1 1 = 5",
                "image = kept", "loan 0 0 2 1 = 5", "restore = true", "count 2 = 2", "slip 0 0 = 10");
        EDGE.holds("25: a smaller one in place of a greater one", TEXT, "image = kept", "loan 0 0 0 1 = 5",
                "look 0 1 0 6 = 0", "wish 0 1 0 = 1", "image = kept", TEXT, "image = kept", "loan 1 1 0 1 = 4",
                "restore = true", "count 2 = 0", "count 3 = 0", "count 4 = 0", "slip 0 0 = 0", "slip 1 1 = 0");
    }

    private static void again() {
        EDGE.holds("26: again and again", TEXT, "loan 0 0 0 1 = 5", "image = kept", "loan 0 0 1 1 = 5",
                "restore = true", "slip 0 0 = 6", "loan 0 0 1 1 = 5", "drop 0 2 0 = 1", "restore = true",
                "slip 0 0 = 6", "restore = true", "slip 0 0 = 6", "count 2 = 1");
        EDGE.holds("25: what comes later does not reach it", TEXT, "tale 0 0 1 = true", "image = kept",
                "tale 0 0 2 = true", "restore = true", "tale 1 0 1 = true", "settle 3 0 = -1");
    }

    private static void whatIsKept() {
        EDGE.holds("26: LOANS", TEXT, "loan 0 0 3 2 = 10", "image = kept", "loan 1 1 9 1 = 4", "restore = true",
                "count 2 = 1", "lent 1 0 = no element", "lent 0 5 = 10", "count 6 = 3", "book 1 4 = 0",
                "reader 1 4 = 0", "book 0 4 = 5", "reader 0 4 = 5", "loan 1 1 3 1 = 4");
        EDGE.holds("26: what was READ", TEXT, "loan 0 0 3 1 = 5", "image = kept", "loan 0 0 4 6 = 26",
                "read 0 0 3 = 9", "restore = true", "read 0 0 0 = 5", "read 0 0 1 = 5", "read 0 0 3 = -1",
                "has 0 0 6 = false", "book 0 2 = 25");
        EDGE.holds("26: SLIPS", TEXT, "loan 0 0 0 1 = 5", "image = kept", "drop 0 1 9 = 0", "restore = true",
                "slip 0 0 = 6", "count 6 = 0", "drop 0 1 0 = 1", "restore = true", "slip 0 0 = 6", "book 0 3 = 1");
        EDGE.holds("26: lost SLIPS", TEXT, "loan 0 0 0 1 = 5", "drop 0 1 0 = 1", "image = kept", "loan 0 0 1 1 = 5",
                "slip 0 0 = 10", "restore = true", "slip 0 0 = -1", "loan 0 0 1 1 = 5", "lent 1 4 = 5");
        EDGE.holds("26: where a SLIP was laid", TEXT, "loan 0 0 0 1 = 5", "image = kept", "loan 0 0 1 3 = 15",
                "restore = true", "drop 0 1 0 = 1", "loan 0 0 1 1 = 5", "lent 1 4 = 5");
        EDGE.holds("26: the first time", TEXT, "image = kept", "loan 1 0 0 1 = 4", "restore = true",
                "has 1 0 30 = false", "loan 1 0 0 1 = 4", "lent 0 4 = 1", "read 1 0 0 = 5");
        EDGE.holds("26: the latest DROP's begin", TEXT, "drop 0 5 1 = 0", "image = kept", "drop 0 9 1 = 0",
                "restore = true", "count 6 = 5", "drop 0 4 1 = refused", "drop 0 5 1 = 0");
        EDGE.holds("26: LOOKS", TEXT, "look 0 0 0 1 = 0", "image = kept", "look 0 0 0 1 = 1", "look 0 0 0 1 = 2",
                "ways 0 = 0", "restore = true", "count 3 = 1", "ways 0 = 2", "whose 1 0 = no element",
                "look 1 0 0 1 = 1");
        EDGE.holds("26: WISHES", TEXT, "wish 0 5 0 = 1", "image = kept", "wish 0 1 0 = 2", "restore = true",
                "count 4 = 1", "waiting = 0", "wish 0 2 0 = 2", "waiting = 2");
        EDGE.holds("26: TALES", TEXT, "tale 0 0 5 = true", "image = kept", "tale 0 0 0 = true", "settle 3 0 = -1",
                "restore = true", "settle 3 0 = 1");
        EDGE.holds("26: STATUS", TEXT, "loan 0 0 0 0 = -1", "image = kept", "loan 0 0 0 0 = -1", "drop 0 0 51 = -1",
                "look 0 0 4 1 = -1", "wish 0 0 0 = -1", "tell ? = fault 1 at 0", "restore = true", "count 7 = 0",
                "count 8 = 1", "count 9 = 0", "count 10 = 0", "count 11 = 0");
    }

    private static void whatIsNotKept() {
        EDGE.holds("26: the ORDER stays as it is", TEXT, "wish 0 5 0 = 1", "image = kept", "wish 0 1 0 = 2",
                "waiting = 1", "restore = true", "turn 0 = 1", "turn 1 = 0");
        EDGE.holds("26: the tape stays as it is", TEXT, "blanks = 20", "image = kept", "blanks = 40",
                "restore = true", "count 5 = 40", "room 40 = 0");
        EDGE.holds("26: fault() stays as it is", TEXT, "image = kept", "tell book 0; = fault 2 at 5",
                "restore = true", "fault = 5");
    }

    private static void fullRows() {
        EDGE.holds("25: 200 LOANS", "tell book 400; reader 1; = 0",
                Edge.each(200, i -> "loan 0 0 " + i + " 1 = 1"), "image = kept", "drop 0 200 0 = 1",
                "restore = true", "count 2 = 200", "lent 199 2 = 199", "slip 0 0 = 201", "loan 0 0 200 1 = refused");
        EDGE.holds("25: 24 LOOKS, 7 WISHES, 6 TALES", "tell " + "book 9;".repeat(10) + "reader 1; = 0",
                Edge.each(24, i -> "look " + i / 6 + " " + i % 6 + " 0 1 = " + i),
                Edge.each(7, i -> "wish 0 " + (7 - i) + " 0 = " + (i + 1)),
                Edge.each(6, i -> "tale " + i + " 9 " + i + " = true"), "image = kept",
                Edge.each(6, i -> "tale " + i + " 9 0 = true"), "restore = true", "count 3 = 24", "count 4 = 7",
                "settle 63 1 = 9", "waiting = 56", "whose 23 1 = 0", "look 9 0 0 1 = refused",
                "wish 0 1 0 = refused");
        EDGE.holds("25: all eight READERS and ten BOOKS",
                "tell " + "book 9;".repeat(10) + "reader 1;".repeat(8) + " = 0",
                Edge.each(80, i -> "loan " + i % 8 + " " + i / 8 + " " + i + " 1 = 1"), "image = kept",
                Edge.each(80, i -> "loan " + i % 8 + " " + i / 8 + " " + (80 + i) + " 1 = 1"), "restore = true",
                "count 2 = 80", Edge.each(10, book -> "slip 7 " + book + " = 2"),
                Edge.each(10, book -> "read 7 " + book + " 0 = 1"), "has 7 9 1 = true", "has 7 9 2 = false",
                "book 9 2 = 8", "book 9 3 = 8", "book 9 4 = 80", "reader 7 4 = 80");
    }

    private static void rooms() {
        EDGE.holds("26: none behind a new room", TEXT, "image = kept", TEXT, "restore = false");
        EDGE.holds("26: it stays behind a FAULT", TEXT, "loan 0 0 0 1 = 5", "image = kept", "loan 0 0 1 1 = 5",
                "tell ? = fault 1 at 0", "restore = true", "slip 0 0 = 6", "count 0 = 2");
        EDGE.holds("26: it stays behind an exception", TEXT, "image = kept", "loan 0 0 1 1 = 5",
                "room 1 = bad argument", "restore = true", "slip 0 0 = 0");
    }

    private static void lastCalls() {
        // the text takes four feeds, its room() and its fault(), so that the row behind these feeds is the 512th
        String[] feeds = Edge.each(505, i -> "blanks = " + (i < 35 ? 20 * (i + 1) : -1));
        EDGE.holds("the 512th call: a question", TEXT, feeds, "count 5 = 700");
        EDGE.holds("the 512th call: a LOAN", TEXT, feeds, "loan 0 0 0 1 = 5");
        EDGE.holds("the 512th call: a LOAN that is refused", TEXT, feeds, "loan 0 0 0 0 = -1");
        EDGE.holds("the 512th call: an exception", TEXT, feeds, "room 701 = bad argument");
        EDGE.holds("the 512th call: a room", TEXT, feeds, "room 700 = 0");
    }
}
