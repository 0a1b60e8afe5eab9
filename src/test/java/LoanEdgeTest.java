/** Boundary cases of promises 6 to 14: BOOKS, READERS, LOANS, DROPS, SLIPS and what was READ. */
public final class LoanEdgeTest {
    private static final Edge EDGE = new Edge("LoanEdgeTest");
    private static final int LEAST = Integer.MIN_VALUE;
    private static final int GREATEST = Integer.MAX_VALUE;
    private static final String PAIRS = "tell book 30; book 30; reader 1; reader 1; = 0";

    public static void main(String[] args) {
        askOfBooks();
        askOfReaders();
        loanHours();
        loanBegins();
        loanMeetsLoan();
        loanMeetsDrop();
        loansAreMany();
        loanOfNoOne();
        whereOneBegins();
        whereALostSlipWas();
        lastPageFirst();
        howFarOneReads();
        lentRows();
        dropHours();
        dropPages();
        dropMoves();
        dropLosesAll();
        slips();
        whatWasRead();
        onlyTheEnds();
        whenAllWasRead();
        hasPages();
        whoIsAhead();
        EDGE.end();
    }

    // ---- promises 6 and 7

    private static void askOfBooks() {
        EDGE.holds("6: no such BOOK", PAIRS, "book -1 0 = no element", "book 2 0 = no element",
                "book 10 0 = no element", "book " + LEAST + " 0 = no element", "book " + GREATEST + " 0 = no element");
        EDGE.holds("6: no such what", PAIRS, "book 0 -1 = no element", "book 0 5 = no element",
                "book 0 " + LEAST + " = no element", "book 0 " + GREATEST + " = no element");
        EDGE.holds("6: nothing yet", PAIRS, "book 1 0 = 30", "book 1 1 = 0", "book 1 2 = 30", "book 1 3 = 0",
                "book 1 4 = 0");
        EDGE.holds("6: the tenth BOOK", "tell " + "book 9;".repeat(9) + "book 400 parts 7; reader 60; = 0",
                "book 9 0 = 400", "book 9 1 = 7", "loan 0 9 0 7 = 400", "book 9 2 = 0", "book 9 3 = 1",
                "book 9 4 = 7", "book 8 2 = 9", "book 8 4 = 0");
        EDGE.holds("6: UNOPENED, from all to none", "tell book 2; reader 1; reader 1; = 0", "book 0 2 = 2",
                "loan 0 0 0 1 = 1", "book 0 2 = 1", "loan 1 0 1 1 = 1", "book 0 2 = 1", "loan 1 0 2 1 = 1",
                "book 0 2 = 0", "loan 0 0 3 1 = 1", "book 0 2 = 0");
        EDGE.holds("6: UNOPENED, at the most pages", "tell book 400; reader 60 ends; = 0", "book 0 2 = 400",
                "loan 0 0 0 1 = 60", "book 0 2 = 339", "loan 0 0 1 6 = 340", "book 0 2 = 0");
        EDGE.holds("6: SLIPS, from none to eight", "tell book 9;" + "reader 1;".repeat(8) + " = 0", "book 0 3 = 0",
                Edge.each(8, i -> "loan " + i + " 0 " + i + " 1 = 1"), "book 0 3 = 8", "drop 0 8 0 = 8",
                "book 0 3 = 0");
        EDGE.holds("6: a SLIP behind the last page is in it", "tell book 1; reader 1; = 0", "loan 0 0 0 1 = 1",
                "slip 0 0 = 2", "book 0 3 = 1");
        EDGE.holds("6: lent until HOUR 8760 at the most", PAIRS, "loan 0 0 8759 1 = 1", "book 0 4 = 8760");
        EDGE.holds("6: lent until, also when it is back", PAIRS, "loan 0 0 5 3 = 3", "drop 0 100 1 = 0",
                "book 0 4 = 8");
    }

    private static void askOfReaders() {
        EDGE.holds("7: no such READER", PAIRS, "reader -1 0 = no element", "reader 2 0 = no element",
                "reader 8 0 = no element", "reader " + LEAST + " 0 = no element",
                "reader " + GREATEST + " 0 = no element");
        EDGE.holds("7: no such what", PAIRS, "reader 0 -1 = no element", "reader 0 5 = no element",
                "reader 0 " + LEAST + " = no element", "reader 0 " + GREATEST + " = no element");
        EDGE.holds("7: the eighth READER", "tell book 9;" + "reader 1;".repeat(7) + "reader 60 colour 3 back 20 "
                + "ends; = 0", "reader 7 0 = 60", "reader 7 1 = 3", "reader 7 2 = 20", "reader 7 3 = 1",
                "reader 7 4 = 0", "loan 7 0 3 24 = 9", "reader 7 4 = 27", "reader 6 4 = 0");
        EDGE.holds("7: never had a BOOK", PAIRS, "loan 0 0 5 1 = 1", "reader 1 4 = 0", "reader 0 4 = 6");
        EDGE.holds("7: until HOUR 8760 at the most", PAIRS, "loan 1 1 8736 24 = 24", "reader 1 4 = 8760");
    }

    // ---- promise 8

    private static void loanHours() {
        EDGE.holds("8: HOURS, 1", PAIRS, "loan 0 0 0 1 = 1");
        EDGE.holds("8: HOURS, 24", PAIRS, "loan 0 0 0 24 = 24");
        EDGE.holds("8: HOURS, 0", PAIRS, "loan 0 0 0 0 = refused");
        EDGE.holds("8: HOURS, 25", PAIRS, "loan 0 0 0 25 = refused");
        EDGE.holds("8: HOURS, below 0", PAIRS, "loan 0 0 0 -1 = refused", "loan 0 0 5 -5 = refused");
        EDGE.holds("8: HOURS, the least and the greatest int", PAIRS, "loan 0 0 0 " + LEAST + " = refused",
                "loan 0 0 0 " + GREATEST + " = refused");
        EDGE.holds("8: up to HOUR 8759, in one", PAIRS, "loan 0 0 8759 1 = 1");
        EDGE.holds("8: up to HOUR 8759, in 24", PAIRS, "loan 0 0 8736 24 = 24");
        EDGE.holds("8: beyond HOUR 8759, by its last", PAIRS, "loan 0 0 8759 2 = refused",
                "loan 0 0 8737 24 = refused");
        EDGE.holds("8: beyond HOUR 8759, by its first", PAIRS, "loan 0 0 8760 1 = refused");
        EDGE.holds("8: from where a sum would wrap", PAIRS, "loan 0 0 " + GREATEST + " 1 = refused",
                "loan 0 0 " + GREATEST + " 24 = refused", "loan 0 0 " + (GREATEST - 12) + " 24 = refused");
    }

    private static void loanBegins() {
        EDGE.holds("8: from HOUR 0", PAIRS, "loan 0 0 0 1 = 1", "count 6 = 0");
        EDGE.holds("8: from below 0", PAIRS, "loan 0 0 -1 1 = refused", "loan 0 0 -1 24 = refused",
                "loan 0 0 " + LEAST + " 1 = refused", "loan 0 0 " + LEAST + " 24 = refused");
        EDGE.holds("8: with the latest LOAN's begin", PAIRS, "loan 0 0 7 3 = 3", "loan 1 1 7 1 = 1");
        EDGE.holds("8: ahead of the latest LOAN's begin", PAIRS, "loan 0 0 7 3 = 3", "loan 1 1 6 1 = refused");
        EDGE.holds("8: the latest begin, not the latest end", PAIRS, "loan 0 0 7 9 = 9", "loan 1 1 8 1 = 1",
                "loan 1 1 9 1 = 1", "count 6 = 9");
        EDGE.holds("8: a refused one is no latest", PAIRS, "loan 0 0 9 25 = refused", "loan 0 0 3 1 = 1",
                "loan 1 0 3 1 = refused", "loan 0 1 3 1 = refused", "loan 1 1 3 1 = 1");
    }

    private static void loanMeetsLoan() {
        EDGE.holds("8: the READER is in another still", PAIRS, "loan 0 0 5 3 = 3", "loan 0 1 5 1 = refused",
                "loan 0 1 7 1 = refused");
        EDGE.holds("8: the READER's other has ended", PAIRS, "loan 0 0 5 3 = 3", "loan 0 1 8 1 = 1");
        EDGE.holds("8: the BOOK is in another still", PAIRS, "loan 0 0 5 3 = 3", "loan 1 0 5 1 = refused",
                "loan 1 0 7 1 = refused");
        EDGE.holds("8: the BOOK's other has ended", PAIRS, "loan 0 0 5 3 = 3", "loan 1 0 8 1 = 1");
        EDGE.holds("8: both are in one still", PAIRS, "loan 0 0 5 3 = 3", "loan 0 0 7 1 = refused",
                "loan 0 0 8 1 = 1");
        EDGE.holds("8: neither is in the other's", PAIRS, "loan 0 0 5 24 = 24", "loan 1 1 5 24 = 24");
        EDGE.holds("8: each in one of their own", PAIRS, "loan 0 0 5 3 = 3", "loan 1 1 5 9 = 9",
                "loan 0 1 8 1 = refused", "loan 1 0 8 1 = refused", "loan 0 1 14 1 = 1");
    }

    private static void loanMeetsDrop() {
        EDGE.holds("8: with the latest DROP's begin", PAIRS, "drop 0 7 1 = 0", "loan 0 0 7 1 = 1");
        EDGE.holds("8: ahead of the latest DROP's begin", PAIRS, "drop 1 7 1 = 0", "loan 0 0 6 1 = refused");
        EDGE.holds("8: a refused DROP is no latest", PAIRS, "drop 1 7 51 = refused", "loan 0 0 6 1 = 1");
    }

    private static void loansAreMany() {
        EDGE.holds("8: 200, and no more", "tell book 400; book 9; reader 1; reader 1; = 0",
                Edge.each(200, i -> "loan 0 0 " + i + " 1 = 1"), "count 2 = 200", "loan 0 0 200 1 = refused",
                "loan 1 1 200 1 = refused", "lent 199 4 = 200", "lent 200 0 = no element", "count 8 = 2");
        EDGE.holds("8: refused ones are not among them", "tell book 9; reader 1; = 0",
                Edge.each(200, i -> "loan 0 0 0 0 = -1"), "loan 0 0 0 1 = 1", "count 2 = 1", "count 8 = 200");
        EDGE.holds("8: none again with a new room", "tell book 400; reader 1; = 0",
                Edge.each(200, i -> "loan 0 0 " + i + " 1 = 1"), "tell book 400; reader 1; = 0", "count 2 = 0",
                "loan 0 0 0 1 = 1");
    }

    private static void loanOfNoOne() {
        EDGE.holds("8: no such READER", PAIRS, "loan -1 0 0 1 = no element", "loan 2 0 0 1 = no element",
                "loan 8 0 0 1 = no element", "loan " + LEAST + " 0 0 1 = no element",
                "loan " + GREATEST + " 0 0 1 = no element");
        EDGE.holds("8: no such BOOK", PAIRS, "loan 0 -1 0 1 = no element", "loan 0 2 0 1 = no element",
                "loan 0 10 0 1 = no element", "loan 0 " + LEAST + " 0 1 = no element",
                "loan 0 " + GREATEST + " 0 1 = no element");
        EDGE.holds("8: that goes ahead of all else", PAIRS, "loan 2 0 -1 25 = no element",
                "loan 0 2 -1 25 = no element", "count 8 = 0");
        EDGE.holds("8: and ahead of 200", "tell book 400; reader 1; = 0",
                Edge.each(200, i -> "loan 0 0 " + i + " 1 = 1"), "loan 1 0 200 1 = no element",
                "loan 0 1 200 1 = no element", "count 8 = 0");
        EDGE.holds("8: READERS without BOOKS, BOOKS without READERS", "tell reader 1; = 0",
                "loan 0 0 0 1 = no element", "tell book 1; = 0", "loan 0 0 0 1 = no element");
    }

    private static void whereOneBegins() {
        EDGE.holds("8: the first time at page 1, whatever BACK", "tell book 9; reader 2 back 20; = 0",
                "loan 0 0 0 1 = 2", "lent 0 4 = 1");
        EDGE.holds("8: the first time is by BOOK and READER", "tell book 9; book 9; reader 2; reader 2; = 0",
                "loan 0 0 0 1 = 2", "loan 1 0 1 1 = 2", "lent 1 4 = 1", "loan 0 1 2 1 = 2", "lent 2 4 = 1");
        EDGE.holds("8: later at the SLIP without BACK", "tell book 9; reader 2; = 0", "loan 0 0 0 1 = 2",
                "loan 0 0 1 1 = 2", "lent 1 4 = 3");
        EDGE.holds("8: BACK to page 1", "tell book 9; reader 2 back 2; = 0", "loan 0 0 0 1 = 2", "loan 0 0 1 1 = 2",
                "lent 1 4 = 1", "slip 0 0 = 3");
        EDGE.holds("8: BACK to page 2", "tell book 9; reader 3 back 2; = 0", "loan 0 0 0 1 = 3", "loan 0 0 1 1 = 3",
                "lent 1 4 = 2");
        EDGE.holds("8: BACK would be page 0: page 1 at least", "tell book 9; reader 2 back 3; = 0",
                "loan 0 0 0 1 = 2", "loan 0 0 1 1 = 2", "lent 1 4 = 1");
        EDGE.holds("8: BACK by 20 from page 21", "tell book 90; reader 20 back 20; = 0", "loan 0 0 0 1 = 20",
                "loan 0 0 1 1 = 20", "lent 1 4 = 1");
        EDGE.holds("8: BACK by 20 from page 22", "tell book 90; reader 21 back 20; = 0", "loan 0 0 0 1 = 21",
                "loan 0 0 1 1 = 21", "lent 1 4 = 2");
        EDGE.holds("8: BACK from behind the last page", "tell book 9; reader 9 back 1; = 0", "loan 0 0 0 1 = 9",
                "loan 0 0 1 1 = 1", "lent 1 4 = 9", "slip 0 0 = 10");
        EDGE.holds("8: no page is left to read", "tell book 9; reader 9; = 0", "loan 0 0 0 1 = 9",
                "loan 0 0 1 24 = 0", "lent 1 4 = 10", "lent 1 5 = 0", "slip 0 0 = 10");
        EDGE.holds("8: from a SLIP that was moved, BACK less", "tell book 90; reader 9 back 3; = 0",
                "loan 0 0 0 1 = 9", "drop 0 1 50 = 0", "loan 0 0 1 1 = 9", "lent 1 4 = 57");
        EDGE.holds("8: from a SLIP that was moved to page 1", "tell book 90; reader 9 back 3; = 0",
                "loan 0 0 0 1 = 9", "drop 0 1 -9 = 0", "slip 0 0 = 1", "loan 0 0 1 1 = 9", "lent 1 4 = 1");
    }

    private static void whereALostSlipWas() {
        EDGE.holds("8: lost, at its PART's first page", "tell book 16 parts 8; reader 8; = 0", "loan 0 0 0 1 = 8",
                "drop 0 1 0 = 1", "loan 0 0 1 1 = 8", "lent 1 4 = 9");
        EDGE.holds("8: lost, at its PART's last page", "tell book 16 parts 8; reader 7; = 0", "loan 0 0 0 1 = 7",
                "drop 0 1 0 = 1", "loan 0 0 1 1 = 7", "lent 1 4 = 1");
        EDGE.holds("8: lost behind the last page, of a full PART", "tell book 16 parts 8; reader 16; = 0",
                "loan 0 0 0 1 = 16", "drop 0 1 0 = 1", "loan 0 0 1 1 = 8", "lent 1 4 = 9");
        EDGE.holds("8: lost behind the last page, of a shorter PART", "tell book 17 parts 8; reader 17; = 0",
                "loan 0 0 0 1 = 17", "drop 0 1 0 = 1", "loan 0 0 1 1 = 1", "lent 1 4 = 17");
        EDGE.holds("8: lost at the last page", "tell book 16 parts 8; reader 15; = 0", "loan 0 0 0 1 = 15",
                "drop 0 1 0 = 1", "loan 0 0 1 1 = 8", "lent 1 4 = 9");
        EDGE.holds("8: lost, PARTS of one page", "tell book 9 parts 1; reader 4; = 0", "loan 0 0 0 1 = 4",
                "drop 0 1 0 = 1", "loan 0 0 1 1 = 4", "lent 1 4 = 5");
        EDGE.holds("8: lost, PARTS longer than the BOOK", "tell book 9 parts 400; reader 9; = 0",
                "loan 0 0 0 1 = 9", "drop 0 1 0 = 1", "loan 0 0 1 1 = 9", "lent 1 4 = 1");
        EDGE.holds("8: lost, without PARTS", "tell book 9; reader 4; = 0", "loan 0 0 0 2 = 8", "drop 0 2 0 = 1",
                "loan 0 0 2 1 = 4", "lent 1 4 = 1");
        EDGE.holds("8: lost, BACK does not count", "tell book 16 parts 8; reader 9 back 20; = 0",
                "loan 0 0 0 1 = 9", "drop 0 1 0 = 1", "loan 0 0 1 1 = 8", "lent 1 4 = 9");
        EDGE.holds("8: lost, laid is not moved", "tell book 90 parts 8; reader 9; = 0", "loan 0 0 0 1 = 9",
                "drop 0 1 50 = 0", "slip 0 0 = 60", "drop 0 1 50 = 1", "loan 0 0 1 1 = 9", "lent 1 4 = 9");
        EDGE.holds("8: lost, the latest LOAN laid it", "tell book 90 parts 8; reader 9; = 0", "loan 0 0 0 1 = 9",
                "loan 0 0 1 1 = 9", "drop 0 2 0 = 1", "loan 0 0 2 1 = 9", "lent 2 4 = 17");
        EDGE.holds("8: lost, then laid anew", "tell book 90 parts 8; reader 9 back 2; = 0", "loan 0 0 0 1 = 9",
                "drop 0 1 0 = 1", "loan 0 0 1 1 = 9", "slip 0 0 = 18", "loan 0 0 2 1 = 9", "lent 2 4 = 16");
        EDGE.holds("8: lost, it is not the first time for ENDS", "tell book 30; reader 2 ends; = 0",
                "loan 0 0 0 1 = 2", "drop 0 1 0 = 1", "loan 0 0 1 1 = 2", "read 0 0 0 = 3", "lent 1 4 = 1");
    }

    private static void lastPageFirst() {
        EDGE.holds("8: ENDS, not counted", "tell book 9; reader 2 ends; = 0", "loan 0 0 0 1 = 2", "lent 0 4 = 1",
                "lent 0 5 = 2", "read 0 0 0 = 3", "has 0 0 9 = true", "has 0 0 8 = false", "slip 0 0 = 3");
        EDGE.holds("8: ENDS, of a BOOK of one page", "tell book 1; reader 2 ends; = 0", "loan 0 0 3 1 = 1",
                "read 0 0 0 = 1", "read 0 0 3 = 3", "slip 0 0 = 2");
        EDGE.holds("8: ENDS, of a BOOK of two pages", "tell book 2; reader 1 ends; = 0", "loan 0 0 3 1 = 1",
                "read 0 0 0 = 2", "read 0 0 3 = 3", "slip 0 0 = 2", "loan 0 0 4 1 = 1", "read 0 0 3 = 3");
        EDGE.holds("8: ENDS takes no time", "tell book 9; reader 9 ends; = 0", "loan 0 0 0 1 = 9", "slip 0 0 = 10");
        EDGE.holds("8: ENDS, the first time alone", "tell book 9; reader 2 ends; = 0", "loan 0 0 0 1 = 2",
                "loan 0 0 1 1 = 2", "read 0 0 0 = 5");
        EDGE.holds("8: ENDS, in each BOOK", "tell book 9; book 8; reader 2 ends; = 0", "loan 0 0 0 1 = 2",
                "loan 0 1 1 1 = 2", "has 0 0 9 = true", "has 0 1 8 = true");
        EDGE.holds("8: ENDS, not by a refused LOAN", "tell book 9; reader 2 ends; = 0", "loan 0 0 0 25 = refused",
                "read 0 0 0 = 0", "has 0 0 9 = false");
    }

    private static void howFarOneReads() {
        EDGE.holds("8: PACE 1", "tell book 400; reader 1; = 0", "loan 0 0 0 24 = 24");
        EDGE.holds("8: PACE 60", "tell book 400; reader 60; = 0", "loan 0 0 0 1 = 60", "loan 0 0 1 5 = 300",
                "slip 0 0 = 361", "loan 0 0 6 1 = 40", "slip 0 0 = 401");
        EDGE.holds("8: up to the last page, just", "tell book 10; reader 5; = 0", "loan 0 0 0 2 = 10",
                "slip 0 0 = 11");
        EDGE.holds("8: up to the last page, within an HOUR", "tell book 9; reader 5; = 0", "loan 0 0 0 2 = 9",
                "slip 0 0 = 10");
        EDGE.holds("8: up to the last page, one left", "tell book 11; reader 5; = 0", "loan 0 0 0 2 = 10",
                "slip 0 0 = 11", "loan 0 0 2 1 = 1", "slip 0 0 = 12");
        EDGE.holds("8: a BOOK of one page", "tell book 1; reader 60; = 0", "loan 0 0 0 24 = 1", "slip 0 0 = 2");
        EDGE.holds("8: pages READ before count", "tell book 9; reader 3 back 3; = 0", "loan 0 0 0 1 = 3",
                "loan 0 0 1 1 = 3", "read 0 0 0 = 3");
    }

    // ---- promise 9

    private static void lentRows() {
        EDGE.holds("9: there is none", PAIRS, "lent 0 0 = no element", "loan 0 0 5 1 = 1", "lent 1 0 = no element",
                "lent -1 0 = no element", "lent 200 0 = no element", "lent " + LEAST + " 0 = no element",
                "lent " + GREATEST + " 0 = no element");
        EDGE.holds("9: another what", PAIRS, "loan 0 0 5 1 = 1", "lent 0 -1 = no element", "lent 0 6 = no element",
                "lent 0 " + LEAST + " = no element", "lent 0 " + GREATEST + " = no element");
        EDGE.holds("9: a what that would reach the next LOAN", PAIRS, "loan 0 0 5 1 = 1", "loan 1 0 6 1 = 1",
                "lent 0 6 = no element", "lent 1 -1 = no element", "lent -1 6 = no element");
        EDGE.holds("9: each what", PAIRS, "loan 1 0 5 2 = 2", "loan 1 0 7 3 = 3", "lent 1 0 = 1", "lent 1 1 = 0",
                "lent 1 2 = 7", "lent 1 3 = 3", "lent 1 4 = 3", "lent 1 5 = 3");
        EDGE.holds("9: a refused LOAN is none", PAIRS, "loan 0 0 5 0 = refused", "lent 0 0 = no element");
    }

    // ---- promise 10

    private static void dropHours() {
        EDGE.holds("10: at HOUR 0", PAIRS, "drop 0 0 1 = 0", "count 6 = 0");
        EDGE.holds("10: at HOUR 8759", PAIRS, "drop 0 8759 1 = 0", "count 6 = 8759");
        EDGE.holds("10: at HOUR 8760", PAIRS, "drop 0 8760 1 = refused", "drop 0 " + GREATEST + " 1 = refused");
        EDGE.holds("10: below HOUR 0", PAIRS, "drop 0 -1 1 = refused", "drop 0 " + LEAST + " 1 = refused");
        EDGE.holds("10: with the latest LOAN's begin", PAIRS, "loan 0 0 7 3 = 3", "drop 1 7 1 = 0");
        EDGE.holds("10: ahead of the latest LOAN's begin", PAIRS, "loan 0 0 7 3 = 3", "drop 1 6 1 = refused");
        EDGE.holds("10: with the latest DROP's begin", PAIRS, "drop 0 7 1 = 0", "drop 1 7 1 = 0", "drop 0 7 1 = 0");
        EDGE.holds("10: ahead of the latest DROP's begin", PAIRS, "drop 0 7 1 = 0", "drop 1 6 1 = refused");
        EDGE.holds("10: while it is lent", PAIRS, "loan 0 0 7 3 = 3", "drop 0 7 1 = refused",
                "drop 0 9 1 = refused");
        EDGE.holds("10: as soon as it is back", PAIRS, "loan 0 0 7 3 = 3", "drop 0 10 1 = 0", "slip 0 0 = 5");
        EDGE.holds("10: while another is lent", PAIRS, "loan 0 0 7 3 = 3", "loan 1 1 7 1 = 1", "drop 1 8 1 = 0");
        EDGE.holds("10: lent up to the last HOUR", PAIRS, "loan 0 0 8758 2 = 2", "drop 0 8759 1 = refused",
                "drop 0 8760 1 = refused");
        EDGE.holds("10: a refused one is no latest", PAIRS, "drop 0 9 51 = refused", "drop 0 3 1 = 0",
                "count 6 = 3");
        EDGE.holds("10: no such BOOK, ahead", PAIRS, "drop -1 0 1 = no element", "drop 2 0 1 = no element",
                "drop 10 0 1 = no element", "drop 2 -1 99 = no element", "drop " + LEAST + " 0 1 = no element",
                "drop " + GREATEST + " 0 1 = no element", "count 9 = 0");
    }

    private static void dropPages() {
        String[] at60 = {"tell book 200; reader 59; = 0", "loan 0 0 0 1 = 59"};
        EDGE.holds("10: by 50 more", at60, "drop 0 1 50 = 0", "slip 0 0 = 110");
        EDGE.holds("10: by 51 more", at60, "drop 0 1 51 = refused");
        EDGE.holds("10: by 50 less", at60, "drop 0 1 -50 = 0", "slip 0 0 = 10");
        EDGE.holds("10: by 51 less", at60, "drop 0 1 -51 = refused");
        EDGE.holds("10: by the least and the greatest int", at60, "drop 0 1 " + LEAST + " = refused",
                "drop 0 1 " + GREATEST + " = refused");
        EDGE.holds("10: by 1 more, by 1 less", at60, "drop 0 1 1 = 0", "slip 0 0 = 61", "drop 0 1 -1 = 0",
                "slip 0 0 = 60");
        EDGE.holds("10: by 0", at60, "drop 0 1 0 = 1", "slip 0 0 = -1");
    }

    private static void dropMoves() {
        String[] at10 = {"tell book 20; reader 9; = 0", "loan 0 0 0 1 = 9"};
        EDGE.holds("10: to page 1", at10, "drop 0 1 -9 = 0", "slip 0 0 = 1");
        EDGE.holds("10: ahead of page 1", at10, "drop 0 1 -10 = 1", "slip 0 0 = -1");
        EDGE.holds("10: to where -1 would be NONE", at10, "drop 0 1 -11 = 1", "slip 0 0 = -1", "book 0 3 = 0");
        EDGE.holds("10: to the last page", at10, "drop 0 1 10 = 0", "slip 0 0 = 20");
        EDGE.holds("10: behind the last page there is none", at10, "drop 0 1 11 = 1", "slip 0 0 = -1");
        EDGE.holds("10: from page 1 on", at10, "drop 0 1 -9 = 0", "drop 0 1 1 = 0", "slip 0 0 = 2");
        EDGE.holds("10: from page 1 to the last", at10, "drop 0 1 -9 = 0", "drop 0 1 19 = 0", "slip 0 0 = 20");
        EDGE.holds("10: from page 1 less", at10, "drop 0 1 -9 = 0", "drop 0 1 -1 = 1", "slip 0 0 = -1");
        EDGE.holds("10: from page 1 by 0", at10, "drop 0 1 -9 = 0", "drop 0 1 0 = 1", "slip 0 0 = -1");
        String[] through = {"tell book 20; reader 20; = 0", "loan 0 0 0 1 = 20", "slip 0 0 = 21"};
        EDGE.holds("10: from behind the last page to it", through, "drop 0 1 -1 = 0", "slip 0 0 = 20");
        EDGE.holds("10: from behind the last page to page 1", through, "drop 0 1 -20 = 0", "slip 0 0 = 1");
        EDGE.holds("10: from behind the last page on", through, "drop 0 1 1 = 1", "slip 0 0 = -1");
        String[] thick = {"tell book 400; reader 60; = 0", "loan 0 0 0 7 = 400", "slip 0 0 = 401"};
        EDGE.holds("10: in the thickest BOOK", thick, "drop 0 7 -50 = 0", "slip 0 0 = 351", "drop 0 7 49 = 0",
                "slip 0 0 = 400", "drop 0 7 1 = 1");
        EDGE.holds("10: how many are lost", "tell book 9;" + "reader 1; reader 2; reader 3; reader 4; = 0",
                Edge.each(4, i -> "loan " + i + " 0 " + i + " 1 = " + (i + 1)), "drop 0 4 -3 = 2", "slip 0 0 = -1",
                "slip 1 0 = -1", "slip 2 0 = 1", "slip 3 0 = 2", "book 0 3 = 2", "drop 0 4 -1 = 1",
                "drop 0 4 -1 = 1", "drop 0 4 -1 = 0");
        EDGE.holds("10: a lost one stays lost", at10, "drop 0 1 0 = 1", "drop 0 1 5 = 0", "slip 0 0 = -1");
        EDGE.holds("10: one that was never laid", at10, "tell book 20; reader 9; = 0", "drop 0 1 5 = 0",
                "slip 0 0 = 0", "drop 0 1 0 = 0", "slip 0 0 = 0", "loan 0 0 1 1 = 9", "lent 0 4 = 1");
        EDGE.holds("10: only in that BOOK", "tell book 20; book 20; reader 9; = 0", "loan 0 0 0 1 = 9",
                "loan 0 1 1 1 = 9", "drop 1 2 0 = 1", "slip 0 0 = 10", "slip 0 1 = -1");
        EDGE.holds("10: nothing is READ by it", at10, "drop 0 1 5 = 0", "read 0 0 0 = 9", "has 0 0 15 = false",
                "count 2 = 1");
        EDGE.holds("10: without READERS", "tell book 9; = 0", "drop 0 0 0 = 0", "drop 0 5 50 = 0", "count 6 = 5");
    }

    private static void dropLosesAll() {
        EDGE.holds("10: by 0, of eight", "tell book 9;" + "reader 1;".repeat(8) + " = 0",
                Edge.each(8, i -> "loan " + i + " 0 " + i + " 1 = 1"), "drop 0 8 0 = 8",
                Edge.each(8, i -> "slip " + i + " 0 = -1"), "drop 0 8 0 = 0");
        EDGE.holds("10: by 0, of none", PAIRS, "drop 0 0 0 = 0");
        EDGE.holds("10: by 0, one behind the last page", "tell book 9; reader 9; = 0", "loan 0 0 0 1 = 9",
                "drop 0 1 0 = 1", "slip 0 0 = -1");
    }

    // ---- promises 11 to 14

    private static void slips() {
        EDGE.holds("11: none was laid", PAIRS, "slip 0 0 = 0", "loan 0 0 0 1 = 1", "slip 1 0 = 0", "slip 0 1 = 0");
        EDGE.holds("11: it is lost", PAIRS, "loan 0 0 0 1 = 1", "drop 0 1 0 = 1", "slip 0 0 = -1");
        EDGE.holds("11: laid anew", PAIRS, "loan 0 0 0 1 = 1", "drop 0 1 0 = 1", "loan 0 0 1 2 = 2", "slip 0 0 = 3");
        EDGE.holds("11: no such READER, no such BOOK", PAIRS, "slip -1 0 = no element", "slip 2 0 = no element",
                "slip 0 -1 = no element", "slip 0 2 = no element", "slip 8 0 = no element", "slip 0 10 = no element",
                "slip " + LEAST + " 0 = no element", "slip 0 " + LEAST + " = no element",
                "slip " + GREATEST + " 0 = no element", "slip 0 " + GREATEST + " = no element");
    }

    private static void whatWasRead() {
        EDGE.holds("12: nothing yet", PAIRS, "read 0 0 0 = 0", "read 0 0 1 = 0", "read 0 0 2 = 0", "read 0 0 3 = -1");
        EDGE.holds("12: another what", PAIRS, "read 0 0 -1 = no element", "read 0 0 4 = no element",
                "read 0 0 " + LEAST + " = no element", "read 0 0 " + GREATEST + " = no element");
        EDGE.holds("12: no such READER, no such BOOK", PAIRS, "read -1 0 0 = no element", "read 2 0 0 = no element",
                "read 0 -1 0 = no element", "read 0 2 0 = no element", "read 8 0 0 = no element",
                "read 0 10 0 = no element", "read " + LEAST + " 0 0 = no element",
                "read 0 " + GREATEST + " 0 = no element");
        EDGE.holds("12: each page once", "tell book 9; reader 4 back 4; = 0", "loan 0 0 0 1 = 4", "loan 0 0 1 1 = 4",
                "loan 0 0 2 1 = 4", "read 0 0 0 = 4");
        EDGE.holds("12: all of the most pages", "tell book 400; reader 60; = 0", "loan 0 0 0 7 = 400",
                "read 0 0 0 = 400", "read 0 0 1 = 400", "read 0 0 2 = 0", "read 0 0 3 = 6");
        EDGE.holds("12: IN A ROW, page 1 alone", "tell book 9; reader 1 ends; = 0", "loan 0 0 0 1 = 1",
                "read 0 0 0 = 2", "read 0 0 1 = 1");
        EDGE.holds("12: IN A ROW, up to what is left out", "tell book 9; reader 2; = 0", "loan 0 0 0 1 = 2",
                "drop 0 1 1 = 0", "loan 0 0 1 1 = 2", "read 0 0 0 = 4", "read 0 0 1 = 2", "has 0 0 3 = false",
                "has 0 0 4 = true");
        EDGE.holds("12: IN A ROW, the gap is filled", "tell book 9; reader 2; = 0", "loan 0 0 0 1 = 2",
                "drop 0 1 1 = 0", "loan 0 0 1 1 = 2", "drop 0 2 -3 = 0", "loan 0 0 2 1 = 2", "lent 2 4 = 3",
                "read 0 0 1 = 5", "read 0 0 0 = 5");
        EDGE.holds("12: IN A ROW, up to the last page read ahead", "tell book 4; reader 3 ends; = 0",
                "loan 0 0 0 1 = 3", "read 0 0 1 = 4");
    }

    private static void onlyTheEnds() {
        EDGE.holds("12: ONLY THE ENDS, 2 of 21", "tell book 21; reader 1 ends; = 0", "loan 0 0 0 1 = 1",
                "read 0 0 2 = 1");
        EDGE.holds("12: ONLY THE ENDS, 2 of 20: a tenth is too much", "tell book 20; reader 1 ends; = 0",
                "loan 0 0 0 1 = 1", "read 0 0 2 = 0");
        EDGE.holds("12: ONLY THE ENDS, 40 of 400", "tell book 400; reader 39 ends; = 0", "loan 0 0 0 1 = 39",
                "read 0 0 0 = 40", "read 0 0 2 = 0");
        EDGE.holds("12: ONLY THE ENDS, 39 of 400", "tell book 400; reader 38 ends; = 0", "loan 0 0 0 1 = 38",
                "read 0 0 0 = 39", "read 0 0 2 = 1", "loan 0 0 1 1 = 38", "read 0 0 2 = 0");
        EDGE.holds("12: ONLY THE ENDS, without the last page", "tell book 21; reader 1; = 0", "loan 0 0 0 1 = 1",
                "read 0 0 2 = 0");
        EDGE.holds("12: ONLY THE ENDS, nothing", "tell book 21; reader 1 ends; = 0", "read 0 0 2 = 0");
        EDGE.holds("12: ONLY THE ENDS, of one page", "tell book 1; reader 1 ends; = 0", "loan 0 0 0 1 = 1",
                "read 0 0 2 = 0");
        EDGE.holds("12: ONLY THE ENDS, by a SLIP that was moved to the last page", "tell book 50; reader 1; = 0",
                "loan 0 0 0 1 = 1", "drop 0 1 48 = 0", "loan 0 0 1 1 = 1", "read 0 0 0 = 2", "read 0 0 2 = 1");
    }

    private static void whenAllWasRead() {
        EDGE.holds("12: all, in a LOAN's first HOUR", "tell book 5; reader 5; = 0", "loan 0 0 7 3 = 5",
                "read 0 0 3 = 7");
        EDGE.holds("12: all, in a LOAN's last HOUR", "tell book 15; reader 5; = 0", "loan 0 0 7 3 = 15",
                "read 0 0 3 = 9");
        EDGE.holds("12: all but one", "tell book 16; reader 5; = 0", "loan 0 0 7 3 = 15", "read 0 0 3 = -1",
                "loan 0 0 20 1 = 1", "read 0 0 3 = 20");
        EDGE.holds("12: all, at HOUR 0", "tell book 1; reader 1; = 0", "loan 0 0 0 1 = 1", "read 0 0 3 = 0");
        EDGE.holds("12: all, at HOUR 8759", "tell book 1; reader 1; = 0", "loan 0 0 8759 1 = 1", "read 0 0 3 = 8759");
        EDGE.holds("12: all, and again later", "tell book 5; reader 5 back 5; = 0", "loan 0 0 7 1 = 5",
                "loan 0 0 9 1 = 5", "read 0 0 3 = 7");
        EDGE.holds("12: all, the last page ahead", "tell book 6; reader 5 ends; = 0", "loan 0 0 7 2 = 6",
                "read 0 0 3 = 7");
        EDGE.holds("12: all, the last one is in the middle", "tell book 6; reader 2; = 0", "loan 0 0 0 1 = 2",
                "drop 0 1 2 = 0", "loan 0 0 1 1 = 2", "read 0 0 3 = -1", "drop 0 2 -4 = 0", "loan 0 0 2 1 = 2",
                "lent 2 4 = 3", "read 0 0 3 = 2");
        EDGE.holds("12: all, of each by himself", "tell book 2; reader 1; reader 2; = 0", "loan 0 0 0 1 = 1",
                "loan 1 0 1 1 = 2", "read 0 0 3 = -1", "read 1 0 3 = 1");
    }

    private static void hasPages() {
        EDGE.holds("13: no such page", PAIRS, "has 0 0 0 = no element", "has 0 0 31 = no element",
                "has 0 0 -1 = no element", "has 0 0 " + LEAST + " = no element", "has 0 0 " + GREATEST
                + " = no element");
        EDGE.holds("13: no such READER, no such BOOK", PAIRS, "has -1 0 1 = no element", "has 2 0 1 = no element",
                "has 0 -1 1 = no element", "has 0 2 1 = no element", "has " + GREATEST + " 0 1 = no element",
                "has 0 " + LEAST + " 1 = no element");
        EDGE.holds("13: each BOOK has its own last page", "tell book 1; book 400; reader 60; = 0",
                "has 0 0 1 = false", "has 0 0 2 = no element", "has 0 1 400 = false", "has 0 1 401 = no element");
        EDGE.holds("13: the first and the last of what was READ", "tell book 90; reader 4; = 0", "loan 0 0 0 1 = 4",
                "drop 0 1 50 = 0", "loan 0 0 1 1 = 4", "has 0 0 1 = true", "has 0 0 4 = true", "has 0 0 5 = false",
                "has 0 0 54 = false", "has 0 0 55 = true", "has 0 0 58 = true", "has 0 0 59 = false");
        EDGE.holds("13: of another READER, of another BOOK", PAIRS, "loan 0 0 0 1 = 1", "has 0 0 1 = true",
                "has 1 0 1 = false", "has 0 1 1 = false");
        for (int page : new int[] {2, 63, 64, 65, 127, 128, 129, 192, 193, 256, 257, 320, 321, 384, 385, 399, 400}) {
            hasJust(page);
        }
    }

    /** A BOOK of which page 1 and one more was READ. */
    private static void hasJust(int page) {
        int falls = (page - 2) / 50;
        int rest = (page - 2) % 50;
        EDGE.holds("13: page " + page + " by itself", "tell book 400; reader 1; = 0", "loan 0 0 0 1 = 1",
                Edge.each(falls, i -> "drop 0 1 50 = 0"),
                Edge.each(rest == 0 ? 0 : 1, i -> "drop 0 1 " + rest + " = 0"),
                "loan 0 0 1 1 = 1", "lent 1 4 = " + page, "read 0 0 0 = 2", "read 0 0 1 = " + (page == 2 ? 2 : 1),
                "book 0 2 = 398", "has 0 0 " + page + " = true",
                "has 0 0 " + (page - 1) + " = " + (page == 2),
                "has 0 0 " + (page % 400 + 1) + " = " + (page == 400));
    }

    private static void whoIsAhead() {
        String[] both = {PAIRS, "loan 0 0 0 5 = 5", "loan 1 0 5 3 = 3"};
        EDGE.holds("14: behind in the BOOK, and ahead of it", both, "ahead 0 1 0 = 2", "ahead 1 0 0 = -2");
        EDGE.holds("14: at one page", both, "loan 1 0 8 2 = 2", "ahead 0 1 0 = 0", "ahead 1 0 0 = 0");
        EDGE.holds("14: both are one", both, "ahead 0 0 0 = no element", "ahead 1 1 0 = no element");
        EDGE.holds("14: one has none there", PAIRS, "loan 0 0 0 5 = 5", "ahead 0 1 0 = no element",
                "ahead 1 0 0 = no element");
        EDGE.holds("14: neither has one", PAIRS, "ahead 0 1 0 = no element");
        EDGE.holds("14: one's lies in another BOOK", PAIRS, "loan 0 0 0 5 = 5", "loan 1 1 0 5 = 5",
                "ahead 0 1 0 = no element", "ahead 0 1 1 = no element");
        EDGE.holds("14: one's is lost", both, "drop 0 8 -5 = 1", "ahead 0 1 0 = no element",
                "ahead 1 0 0 = no element");
        EDGE.holds("14: both are lost", both, "drop 0 8 0 = 2", "ahead 0 1 0 = no element");
        EDGE.holds("14: from page 1 to behind the last", "tell book 400; reader 60; reader 1; = 0",
                "loan 1 0 0 1 = 1", "drop 0 1 -1 = 0", "loan 0 0 1 7 = 400", "ahead 0 1 0 = 400",
                "ahead 1 0 0 = -400");
        EDGE.holds("14: no such READER, no such BOOK", both, "ahead -1 0 0 = no element", "ahead 2 0 0 = no element",
                "ahead 0 -1 0 = no element", "ahead 0 2 0 = no element", "ahead 0 1 -1 = no element",
                "ahead 0 1 2 = no element", "ahead " + LEAST + " 0 0 = no element",
                "ahead 0 " + GREATEST + " 0 = no element", "ahead 0 1 " + LEAST + " = no element");
    }
}
