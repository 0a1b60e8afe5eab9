/** Boundary cases of promises 20 to 24: WISHES, the ORDER of least WAITING, TALES and what settles them. */
public final class WishEdgeTest {
    private static final Edge EDGE = new Edge("WishEdgeTest");
    private static final int LEAST = Integer.MIN_VALUE;
    private static final int GREATEST = Integer.MAX_VALUE;
    private static final String TWO = "tell book 9; book 9; reader 1; reader 1; = 0";

    public static void main(String[] args) {
        wishAsTold();
        wishesAreMany();
        waiting();
        likeOrders();
        orderIsKept();
        turns();
        taleAsTold();
        settleNothing();
        settleByLooks();
        settleByBooks();
        settleRefuses();
        EDGE.end();
    }

    // ---- promise 20

    private static void wishAsTold() {
        EDGE.holds("20: HOURS, 1", TWO, "wish 0 1 0 = 1");
        EDGE.holds("20: HOURS, 99", TWO, "wish 0 99 0 = 1");
        EDGE.holds("20: HOURS, 0", TWO, "wish 0 0 0 = refused", "wish 0 -1 0 = refused",
                "wish 0 " + LEAST + " 0 = refused");
        EDGE.holds("20: HOURS, 100", TWO, "wish 0 100 0 = refused", "wish 0 " + GREATEST + " 0 = refused");
        EDGE.holds("20: READY, 0", TWO, "wish 0 1 0 = 1");
        EDGE.holds("20: READY, 999", TWO, "wish 0 1 999 = 1");
        EDGE.holds("20: READY, 1000", TWO, "wish 0 1 1000 = refused", "wish 0 1 " + GREATEST + " = refused");
        EDGE.holds("20: READY, below 0", TWO, "wish 0 1 -1 = refused", "wish 0 1 " + LEAST + " = refused");
        EDGE.holds("20: one READER may wish again", TWO, "wish 1 1 0 = 1", "wish 1 1 0 = 2", "count 4 = 2");
        EDGE.holds("20: no such READER, ahead", TWO, "wish -1 1 0 = no element", "wish 2 1 0 = no element",
                "wish 8 1 0 = no element", "wish 2 0 1000 = no element", "wish " + LEAST + " 1 0 = no element",
                "wish " + GREATEST + " 1 0 = no element", "count 11 = 0");
        EDGE.holds("20: a room without BOOKS", "tell reader 1; = 0", "wish 0 1 0 = 1");
    }

    private static void wishesAreMany() {
        String[] seven = Edge.each(7, i -> "wish 0 1 0 = " + (i + 1));
        EDGE.holds("20: 7, and no more", TWO, seven, "wish 0 1 0 = refused", "wish 1 99 999 = refused", "count 4 = 7",
                "waiting = 21");
        EDGE.holds("20: no such READER goes ahead of 7", TWO, seven, "wish 2 1 0 = no element", "count 11 = 0");
        EDGE.holds("20: refused ones are not among them", TWO, Edge.each(9, i -> "wish 0 0 0 = -1"),
                "wish 0 1 0 = 1", "count 11 = 9");
        EDGE.holds("20: none again with a new room", TWO, seven, TWO, "count 4 = 0", "wish 0 1 0 = 1");
    }

    // ---- promises 21 and 22

    private static void waiting() {
        EDGE.holds("21: 0 without WISHES", TWO, "waiting = 0", "turn 0 = no element");
        EDGE.holds("21: 0 of one", TWO, "wish 0 99 999 = 1", "waiting = 0", "turn 0 = 0", "turn 1 = no element");
        EDGE.holds("21: READY as the one ahead is through", TWO, "wish 0 5 0 = 1", "wish 0 5 5 = 2", "waiting = 0",
                "turn 0 = 0", "turn 1 = 1");
        EDGE.holds("21: READY one HOUR ahead of that", TWO, "wish 0 5 0 = 1", "wish 0 5 4 = 2", "waiting = 1",
                "turn 0 = 0");
        EDGE.holds("21: the BOOK may lie there until he is READY", TWO, "wish 0 1 0 = 1", "wish 0 1 999 = 2",
                "waiting = 0");
        EDGE.holds("21: it may be less to let it lie", TWO, "wish 0 99 0 = 1", "wish 0 1 1 = 2", "wish 0 1 2 = 3",
                "waiting = 3", "turn 0 = 1", "turn 1 = 2", "turn 2 = 0");
        EDGE.holds("21: seven of the most HOURS at once", TWO, Edge.each(7, i -> "wish 0 99 999 = " + (i + 1)),
                "waiting = 2079", "turn 0 = 0", "turn 6 = 6", "turn 7 = no element");
        EDGE.holds("21: seven, the shortest first", TWO, Edge.each(7, i -> "wish 0 " + (7 - i) + " 0 = " + (i + 1)),
                "waiting = 56", Edge.each(7, i -> "turn " + i + " = " + (6 - i)));
        EDGE.holds("21: seven, each READY as the one ahead is through", TWO,
                Edge.each(7, i -> "wish 0 99 " + 99 * (6 - i) + " = " + (i + 1)), "waiting = 0",
                Edge.each(7, i -> "turn " + i + " = " + (6 - i)));
        EDGE.holds("21: behind the latest READY", TWO, "wish 0 99 999 = 1", "wish 0 98 999 = 2", "waiting = 98",
                "turn 0 = 1");
    }

    private static void likeOrders() {
        EDGE.holds("21: of like ones the first as a row, all alike", TWO, "wish 0 3 0 = 1", "wish 1 3 0 = 2",
                "wish 0 3 0 = 3", "waiting = 9", "turn 0 = 0", "turn 1 = 1", "turn 2 = 2");
        EDGE.holds("21: of like ones the first, by its second turn", TWO, "wish 0 9 0 = 1", "wish 0 1 0 = 2",
                "wish 0 4 0 = 3", "wish 0 4 0 = 4", "waiting = 15", "turn 0 = 1", "turn 1 = 2", "turn 2 = 3",
                "turn 3 = 0");
        EDGE.holds("21: of like ones the first, though it is not by READY", TWO, "wish 0 2 2 = 1", "wish 0 2 1 = 2",
                "wish 0 2 0 = 3", "waiting = 3", "turn 0 = 2", "turn 1 = 0", "turn 2 = 1");
        EDGE.holds("21: of like ones the first, both ways to go", TWO, "wish 0 2 1 = 1", "wish 0 1 0 = 2",
                "waiting = 0", "turn 0 = 1", "turn 1 = 0");
    }

    private static void orderIsKept() {
        EDGE.holds("22: none ahead of waiting()", TWO, "wish 0 1 0 = 1", "turn 0 = no element");
        EDGE.holds("22: it is kept, though a WISH is told", TWO, "wish 0 5 0 = 1", "waiting = 0", "wish 0 1 0 = 2",
                "turn 0 = 0", "turn 1 = no element", "waiting = 1", "turn 0 = 1", "turn 1 = 0");
        EDGE.holds("22: it is kept, though a WISH is refused", TWO, "wish 0 5 0 = 1", "waiting = 0",
                "wish 0 0 0 = refused", "turn 0 = 0");
        EDGE.holds("22: none with a new room", TWO, "wish 0 5 0 = 1", "waiting = 0", TWO, "turn 0 = no element");
        EDGE.holds("22: a shorter one leaves none of the longer one", TWO, "image = kept", "wish 0 5 0 = 1",
                "wish 0 5 0 = 2", "waiting = 5", "restore = true", "waiting = 0", "turn 0 = no element",
                "turn 1 = no element");
    }

    private static void turns() {
        EDGE.holds("22: there is none", TWO, "wish 0 1 0 = 1", "wish 0 1 0 = 2", "waiting = 1", "turn 1 = 1",
                "turn 2 = no element", "turn -1 = no element", "turn 7 = no element",
                "turn " + LEAST + " = no element", "turn " + GREATEST + " = no element");
    }

    // ---- promise 23

    private static void taleAsTold() {
        EDGE.holds("23: TALE 0", TWO, "tale 0 0 1 = true", "settle 3 0 = 1");
        EDGE.holds("23: TALE 5", TWO, "tale 5 0 1 = true", "settle 48 0 = 1");
        EDGE.holds("23: TALE 6", TWO, "tale 6 0 1 = false", "tale " + GREATEST + " 0 1 = false");
        EDGE.holds("23: TALE below 0", TWO, "tale -1 0 1 = false", "tale " + LEAST + " 0 1 = false");
        EDGE.holds("23: page 0", TWO, "tale 0 0 5 = true", "tale 0 0 0 = true", "settle 3 0 = -1");
        EDGE.holds("23: page 401", TWO, "tale 0 0 401 = true", "settle 3 0 = 1");
        EDGE.holds("23: page 402", TWO, "tale 0 0 402 = false", "tale 0 0 " + GREATEST + " = false");
        EDGE.holds("23: page below 0", TWO, "tale 0 0 -1 = false", "tale 0 0 " + LEAST + " = false");
        EDGE.holds("23: a page that the BOOK has not", TWO, "tale 0 0 10 = true", "settle 3 0 = 1");
        EDGE.holds("23: a refused one leaves the page told before", TWO, "tale 0 0 5 = true", "tale 1 0 6 = true",
                "tale 0 0 402 = false", "tale 1 0 -1 = false", "settle 3 0 = 1", "settle 7 0 = 1");
        EDGE.holds("23: the first and the last BOOK", "tell " + "book 9;".repeat(10) + " = 0", "tale 0 0 1 = true",
                "tale 1 9 1 = true", "settle 3 1 = 0", "settle 6 1 = 9", "settle 7 0 = 2");
        EDGE.holds("23: no such BOOK, ahead", TWO, "tale 0 -1 0 = no element", "tale 0 2 0 = no element",
                "tale 0 10 0 = no element", "tale 6 2 402 = no element", "tale 0 " + LEAST + " 0 = no element",
                "tale 0 " + GREATEST + " 0 = no element");
        EDGE.holds("23: a room without READERS", "tell book 9; = 0", "tale 0 0 5 = true", "settle 3 0 = 1");
        EDGE.holds("23: 0 again with a new room", TWO, "tale 0 0 5 = true", TWO, "settle 3 0 = -1");
    }

    // ---- promise 24

    private static void settleNothing() {
        EDGE.holds("24: of none", TWO, "settle 0 0 = 0", "settle 0 1 = -1");
        for (int tale = 0; tale < 6; tale++) {
            EDGE.holds("24: of TALE " + tale + " alone", TWO, "tale " + tale + " 0 7 = true",
                    "settle " + (1 << tale) + " 0 = 0", "settle " + (1 << tale) + " 1 = -1");
        }
        EDGE.holds("24: it can't be, as none is told", TWO, "settle 3 0 = -1", "settle 3 1 = -1", "settle 63 0 = -1",
                "settle 63 1 = -1");
        EDGE.holds("24: it can't be, as two are alike in all BOOKS", TWO, "tale 0 0 4 = true", "tale 0 1 5 = true",
                "tale 1 0 4 = true", "tale 1 1 5 = true", "settle 3 0 = -1", "settle 3 1 = -1");
        EDGE.holds("24: it can't be, as two of three are alike", TWO, "tale 0 0 4 = true", "settle 7 0 = -1",
                "settle 7 1 = -1", "settle 3 0 = 1", "settle 5 0 = 1");
        EDGE.holds("24: it can't be, as there are no BOOKS", "tell reader 1; = 0", "settle 3 0 = -1",
                "settle 3 1 = -1", "settle 4 0 = 0");
    }

    private static void settleByLooks() {
        EDGE.holds("24: page 0, no slip, is seen too", TWO, "tale 0 1 9 = true", "settle 3 0 = 1", "settle 3 1 = 1");
        EDGE.holds("24: all six by one look", TWO, Edge.each(6, i -> "tale " + i + " 1 " + i + " = true"),
                "settle 63 0 = 1", "settle 63 1 = 1");
        EDGE.holds("24: six by five looks", "tell " + "book 9;".repeat(10) + " = 0",
                Edge.each(6, i -> "tale " + i + " " + (i + 4) + " 1 = true"), "settle 63 0 = 5", "settle 63 1 = 4",
                "settle 62 0 = 4", "settle 62 1 = 5", "settle 48 0 = 1", "settle 48 1 = 8");
        EDGE.holds("24: four by two looks, two each", TWO, "tale 1 0 1 = true", "tale 2 1 1 = true",
                "tale 3 0 1 = true", "tale 3 1 1 = true", "settle 15 0 = 2", "settle 15 1 = 0");
        EDGE.holds("24: the next look by what was seen", "tell book 9; book 9; book 9; = 0", "tale 2 2 1 = true",
                "tale 3 2 1 = true", "tale 1 0 1 = true", "tale 3 1 1 = true", "settle 15 0 = 2", "settle 15 1 = 2");
        EDGE.holds("24: TALES that are not asked of do not count", TWO, "tale 0 0 1 = true", "tale 1 0 2 = true",
                "tale 2 0 2 = true", "settle 3 0 = 1", "settle 7 0 = -1");
    }

    private static void settleByBooks() {
        EDGE.holds("24: the least of two BOOKS", TWO, "tale 0 0 1 = true", "tale 0 1 1 = true", "settle 3 1 = 0");
        EDGE.holds("24: not one that takes more looks", TWO, "tale 0 0 1 = true", "tale 0 1 1 = true",
                "tale 1 1 2 = true", "settle 7 0 = 1", "settle 7 1 = 1");
        EDGE.holds("24: not one that tells nothing", "tell book 9; book 9; book 9; = 0", "tale 0 2 1 = true",
                "settle 3 1 = 2");
        EDGE.holds("24: the least, though a later one parts more", "tell book 9; book 9; book 9; = 0",
                "tale 0 0 1 = true", "tale 1 0 1 = true", "tale 0 1 1 = true", "tale 2 1 1 = true",
                "tale 0 2 1 = true", "tale 1 2 2 = true", "settle 15 0 = 2", "settle 15 1 = 0");
        EDGE.holds("24: the tenth BOOK", "tell " + "book 9;".repeat(10) + " = 0", "tale 0 9 1 = true",
                "settle 3 0 = 1", "settle 3 1 = 9");
    }

    private static void settleRefuses() {
        EDGE.holds("24: bits 63", TWO, "settle 63 0 = -1");
        EDGE.holds("24: bits 64", TWO, "settle 64 0 = bad argument", "settle 64 1 = bad argument",
                "settle " + GREATEST + " 0 = bad argument");
        EDGE.holds("24: bits below 0", TWO, "settle -1 0 = bad argument", "settle -1 1 = bad argument",
                "settle " + LEAST + " 0 = bad argument");
        EDGE.holds("24: another what", TWO, "settle 0 2 = no element", "settle 0 -1 = no element",
                "settle 0 " + LEAST + " = no element", "settle 0 " + GREATEST + " = no element");
        EDGE.holds("24: another what goes ahead of the bits", TWO, "settle 64 2 = no element",
                "settle -1 -1 = no element", "settle " + LEAST + " " + GREATEST + " = no element");
    }
}
