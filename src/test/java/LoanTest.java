/** Promises 6 to 14: loans, drops, slips and what was read. */
public final class LoanTest {
    private static final Check CHECK = new Check("LoanTest");

    public static void main(String[] args) {
        paceAndSlip();
        loansRefused();
        loansOfOneHour();
        twoHundred();
        back();
        lastPageFirst();
        lostSlip();
        drops();
        dropsRefused();
        whatWasRead();
        onlyTheEnds();
        allRead();
        unopened();
        rowsApart();
        aheadOf();
        noSuch();
        CHECK.end();
    }

    private static void row(SlipRoom room, int loan, int... want) {
        for (int what = 0; what < want.length; what++) {
            CHECK.due("lent(" + loan + ", " + what + ")", room.lent(loan, what), want[what]);
        }
    }

    private static void paceAndSlip() {
        SlipRoom room = CHECK.roomOf("book 50; book 400; reader 7; reader 60;");
        CHECK.due("slip ahead", room.slip(0, 0), 0);
        CHECK.due("3 hours of 7", room.loan(0, 0, 3, 3), 21);
        CHECK.due("slip", room.slip(0, 0), 22);
        CHECK.due("slip of the other", room.slip(1, 0), 0);
        CHECK.due("slip in the other", room.slip(0, 1), 0);
        CHECK.due("until, book", room.book(0, 4), 6);
        CHECK.due("until, reader", room.reader(0, 4), 6);
        CHECK.due("begin", room.count(6), 3);
        CHECK.due("go on", room.loan(0, 0, 6, 4), 28);
        CHECK.due("slip", room.slip(0, 0), 50);
        CHECK.due("the last page", room.loan(0, 0, 20, 24), 1);
        CHECK.due("slip behind the last page", room.slip(0, 0), 51);
        CHECK.due("no page is left", room.loan(0, 0, 44, 2), 0);
        CHECK.due("slip", room.slip(0, 0), 51);
        row(room, 0, 0, 0, 3, 3, 1, 21);
        row(room, 1, 0, 0, 6, 4, 22, 28);
        row(room, 2, 0, 0, 20, 24, 50, 1);
        row(room, 3, 0, 0, 44, 2, 51, 0);
        CHECK.due("a fast one", room.loan(1, 1, 44, 6), 360);
        CHECK.due("all of it", room.loan(1, 1, 50, 24), 40);
        row(room, 5, 1, 1, 50, 24, 361, 40);
        CHECK.due("loans", room.count(2), 6);
        CHECK.noElement("lent(6, 0)", () -> room.lent(6, 0));
        CHECK.noElement("lent(-1, 0)", () -> room.lent(-1, 0));
        CHECK.noElement("lent(0, 6)", () -> room.lent(0, 6));
        CHECK.noElement("lent(0, -1)", () -> room.lent(0, -1));
        CHECK.noElement("lent(greatest int, 0)", () -> room.lent(Integer.MAX_VALUE, 0));
    }

    private static void refused(SlipRoom room, int reader, int book, int from, int hours) {
        int before = room.count(8);
        int begin = room.count(6);
        int loans = room.count(2);
        String call = "loan(" + reader + ", " + book + ", " + from + ", " + hours + ")";
        CHECK.due(call, room.loan(reader, book, from, hours), -1);
        CHECK.due("STATUS 1 behind " + call, room.count(8), before + 1);
        CHECK.due("loans behind " + call, room.count(2), loans);
        CHECK.due("begin behind " + call, room.count(6), begin);
    }

    private static void loansRefused() {
        SlipRoom room = CHECK.roomOf("book 50; book 50; reader 1; reader 1;");
        refused(room, 0, 0, 0, 0);
        refused(room, 0, 0, 0, 25);
        refused(room, 0, 0, 0, -1);
        refused(room, 0, 0, 0, Integer.MAX_VALUE);
        refused(room, 0, 0, 0, Integer.MIN_VALUE);
        refused(room, 0, 0, -1, 1);
        refused(room, 0, 0, -1, 24);
        refused(room, 0, 0, 8760, 1);
        refused(room, 0, 0, 8759, 2);
        refused(room, 0, 0, 8737, 24);
        refused(room, 0, 0, Integer.MAX_VALUE, 24);
        refused(room, 0, 0, Integer.MIN_VALUE, 24);
        CHECK.due("no slip was laid", room.slip(0, 0), 0);
        CHECK.due("a loan", room.loan(0, 0, 10, 5), 5);
        refused(room, 0, 1, 14, 1);
        refused(room, 1, 0, 14, 1);
        refused(room, 1, 1, 9, 1);
        CHECK.due("the other two", room.loan(1, 1, 10, 1), 1);
        refused(room, 1, 1, 10, 1);
        CHECK.due("at its end", room.loan(0, 1, 15, 1), 1);
        CHECK.due("a drop", room.drop(0, 20, 1), 0);
        refused(room, 1, 0, 19, 1);
        CHECK.due("at the drop's hour", room.loan(1, 0, 20, 1), 1);
        CHECK.due("up to the last hour", room.loan(0, 0, 8736, 24), 24);
        CHECK.due("in the last hour", room.loan(1, 1, 8759, 1), 1);
        refused(room, 0, 0, 8759, 1);
    }

    private static void loansOfOneHour() {
        SlipRoom room = CHECK.roomOf("book 50; book 50; reader 1; reader 1;");
        CHECK.due("one", room.loan(0, 0, 7, 3), 3);
        CHECK.due("as another", room.loan(1, 1, 7, 1), 1);
        CHECK.due("begin", room.count(6), 7);
        CHECK.due("until, book 1", room.book(1, 4), 8);
        CHECK.due("until, reader 0", room.reader(0, 4), 10);
    }

    private static void twoHundred() {
        SlipRoom room = CHECK.roomOf("book 400; reader 1;");
        for (int i = 0; i < 200; i++) {
            room.loan(0, 0, i, 1);
        }
        CHECK.due("loans", room.count(2), 200);
        refused(room, 0, 0, 200, 1);
        row(room, 199, 0, 0, 199, 1, 200, 1);
        CHECK.due("slip", room.slip(0, 0), 201);
        room.look(0, 200, 0, 201);
        CHECK.due("all of them count for ways", room.ways(0), 1);
        room.look(0, 199, 0, 201);
        CHECK.due("and no more than there are", room.moved(0), 2);
    }

    private static void back() {
        SlipRoom room = CHECK.roomOf("book 50; reader 5 back 3; reader 2 back 20;");
        CHECK.due("the first time", room.loan(0, 0, 0, 1), 5);
        CHECK.due("later", room.loan(0, 0, 1, 1), 5);
        row(room, 1, 0, 0, 1, 1, 3, 5);
        CHECK.due("slip", room.slip(0, 0), 8);
        CHECK.due("read", room.read(0, 0, 0), 7);
        room.loan(1, 0, 2, 1);
        CHECK.due("not ahead of page 1", room.loan(1, 0, 3, 1), 2);
        row(room, 3, 1, 0, 3, 1, 1, 2);
        CHECK.due("through", room.loan(0, 0, 4, 24), 46);
        CHECK.due("slip", room.slip(0, 0), 51);
        CHECK.due("back from behind the last page", room.loan(0, 0, 28, 1), 3);
        row(room, 5, 0, 0, 28, 1, 48, 3);
    }

    private static void lastPageFirst() {
        SlipRoom room = CHECK.roomOf("book 50; book 1; book 3; reader 5 ends; reader 5;");
        CHECK.due("pages", room.loan(0, 0, 0, 1), 5);
        row(room, 0, 0, 0, 0, 1, 1, 5);
        CHECK.due("read", room.read(0, 0, 0), 6);
        CHECK.due("in a row", room.read(0, 0, 1), 5);
        CHECK.holds("has the last page", room.has(0, 0, 50));
        CHECK.due("later", room.loan(0, 0, 1, 1), 5);
        CHECK.due("read", room.read(0, 0, 0), 11);
        CHECK.due("a book of one page", room.loan(0, 1, 2, 1), 1);
        CHECK.due("read", room.read(0, 1, 0), 1);
        CHECK.due("all read at", room.read(0, 1, 3), 2);
        CHECK.due("the last page again", room.loan(0, 2, 3, 1), 3);
        CHECK.due("read", room.read(0, 2, 0), 3);
        CHECK.due("another reader", room.loan(1, 0, 4, 1), 5);
        CHECK.fails("has not the last page", room.has(1, 0, 50));
    }

    private static void lostSlip() {
        SlipRoom room = CHECK.roomOf("book 50 parts 8; book 50; reader 5 back 3; reader 60; reader 8;");
        room.loan(0, 0, 0, 2);
        room.loan(1, 0, 2, 1);
        room.loan(2, 0, 3, 1);
        CHECK.due("all are lost", room.drop(0, 4, 0), 3);
        CHECK.due("slip", room.slip(0, 0), -1);
        CHECK.due("again, none is there to lose", room.drop(0, 4, 0), 0);
        CHECK.due("pages", room.loan(0, 0, 4, 1), 5);
        row(room, 3, 0, 0, 4, 1, 9, 5);
        CHECK.due("slip laid anew", room.slip(0, 0), 14);
        CHECK.due("of the last page's part", room.loan(1, 0, 5, 1), 2);
        row(room, 4, 1, 0, 5, 1, 49, 2);
        CHECK.due("at a part's first page", room.loan(2, 0, 6, 1), 8);
        row(room, 5, 2, 0, 6, 1, 9, 8);
        room.loan(0, 1, 7, 3);
        CHECK.due("without parts", room.drop(1, 10, 0), 1);
        CHECK.due("pages", room.loan(0, 1, 10, 1), 5);
        row(room, 7, 0, 1, 10, 1, 1, 5);

        SlipRoom moved = CHECK.roomOf("book 50 parts 8; reader 5; reader 3;");
        moved.loan(0, 0, 0, 1);
        CHECK.due("moved only", moved.drop(0, 1, 20), 0);
        CHECK.due("slip", moved.slip(0, 0), 26);
        CHECK.due("lost then", moved.drop(0, 1, 0), 1);
        CHECK.due("pages", moved.loan(0, 0, 1, 1), 5);
        row(moved, 1, 0, 0, 1, 1, 1, 5);
        CHECK.fails("nothing is read where it was moved", moved.has(0, 0, 26));
    }

    private static void drops() {
        SlipRoom room = CHECK.roomOf("book 20; book 20; reader 4; reader 19; reader 20; reader 1;");
        room.loan(0, 0, 0, 1);
        room.loan(1, 0, 1, 1);
        room.loan(2, 0, 2, 1);
        room.loan(3, 1, 2, 1);
        CHECK.due("slips in it", room.book(0, 3), 3);
        CHECK.due("back by 4", room.drop(0, 3, -4), 0);
        CHECK.due("slip of 0", room.slip(0, 0), 1);
        CHECK.due("slip of 1", room.slip(1, 0), 16);
        CHECK.due("slip of 2, from behind the last page", room.slip(2, 0), 17);
        CHECK.due("slip of 3: none", room.slip(3, 0), 0);
        CHECK.due("slip in the other book", room.slip(3, 1), 2);
        CHECK.due("begin", room.count(6), 3);
        CHECK.due("on by 4", room.drop(0, 3, 4), 1);
        CHECK.due("slip of 1", room.slip(1, 0), 20);
        CHECK.due("slip of 2 is lost behind the last page", room.slip(2, 0), -1);
        CHECK.due("slips in it", room.book(0, 3), 2);
        CHECK.due("by 50", room.drop(0, 9, 50), 2);
        CHECK.due("slips in it", room.book(0, 3), 0);
        CHECK.due("by 50 less", room.drop(1, 8759, -50), 1);
        CHECK.due("begin", room.count(6), 8759);
        CHECK.due("STATUS 2", room.count(9), 0);

        SlipRoom on = CHECK.roomOf("book 20; reader 4 back 2;");
        on.loan(0, 0, 0, 1);
        on.drop(0, 1, 7);
        CHECK.due("he goes on where it lies, back counted", on.loan(0, 0, 1, 1), 4);
        row(on, 1, 0, 0, 1, 1, 10, 4);
        CHECK.due("in a row", on.read(0, 0, 1), 4);
        CHECK.due("read", on.read(0, 0, 0), 8);
    }

    private static void dropRefused(SlipRoom room, int book, int hour, int by) {
        int before = room.count(9);
        int begin = room.count(6);
        int slip = room.slip(0, 0);
        String call = "drop(" + book + ", " + hour + ", " + by + ")";
        CHECK.due(call, room.drop(book, hour, by), -1);
        CHECK.due("STATUS 2 behind " + call, room.count(9), before + 1);
        CHECK.due("begin behind " + call, room.count(6), begin);
        CHECK.due("slip behind " + call, room.slip(0, 0), slip);
    }

    private static void dropsRefused() {
        SlipRoom room = CHECK.roomOf("book 20; book 20; reader 4;");
        dropRefused(room, 0, -1, 1);
        dropRefused(room, 0, 8760, 1);
        dropRefused(room, 0, 0, 51);
        dropRefused(room, 0, 0, -51);
        dropRefused(room, 0, 0, Integer.MIN_VALUE);
        dropRefused(room, 0, Integer.MAX_VALUE, 0);
        room.loan(0, 0, 5, 3);
        dropRefused(room, 0, 4, 1);
        dropRefused(room, 1, 4, 1);
        dropRefused(room, 0, 5, 1);
        dropRefused(room, 0, 7, 1);
        CHECK.due("another book meanwhile", room.drop(1, 5, 1), 0);
        CHECK.due("at the loan's end", room.drop(0, 8, 1), 0);
        dropRefused(room, 1, 7, 1);
        CHECK.noElement("drop(2, 9, 1)", () -> room.drop(2, 9, 1));
        CHECK.noElement("drop(-1, 9, 99)", () -> room.drop(-1, 9, 99));
    }

    private static void whatWasRead() {
        SlipRoom room = CHECK.roomOf("book 400; reader 60 back 1;");
        CHECK.due("read ahead", room.read(0, 0, 0), 0);
        CHECK.due("in a row ahead", room.read(0, 0, 1), 0);
        CHECK.due("only the ends ahead", room.read(0, 0, 2), 0);
        CHECK.due("all read ahead", room.read(0, 0, 3), -1);
        room.loan(0, 0, 0, 2);
        room.drop(0, 2, 50);
        room.loan(0, 0, 2, 1);
        CHECK.due("read", room.read(0, 0, 0), 180);
        CHECK.due("in a row", room.read(0, 0, 1), 120);
        int[] pages = {1, 63, 64, 65, 120, 121, 128, 169, 170, 171, 229, 230, 400};
        boolean[] has = {true, true, true, true, true, false, false, false, true, true, true, false, false};
        for (int i = 0; i < pages.length; i++) {
            CHECK.due("has(0, 0, " + pages[i] + ")", room.has(0, 0, pages[i]) ? 1 : 0, has[i] ? 1 : 0);
        }
        CHECK.noElement("has(0, 0, 0)", () -> room.has(0, 0, 0));
        CHECK.noElement("has(0, 0, 401)", () -> room.has(0, 0, 401));
        CHECK.noElement("has(0, 0, least int)", () -> room.has(0, 0, Integer.MIN_VALUE));
        CHECK.noElement("read(0, 0, 4)", () -> room.read(0, 0, 4));
        CHECK.noElement("read(0, 0, -1)", () -> room.read(0, 0, -1));
    }

    private static void onlyTheEnds() {
        SlipRoom room = CHECK.roomOf("book 21; book 20; book 10; reader 1 ends; reader 1;");
        room.loan(0, 0, 0, 1);
        CHECK.due("2 of 21", room.read(0, 0, 2), 1);
        room.loan(0, 1, 1, 1);
        CHECK.due("2 of 20", room.read(0, 1, 2), 0);
        room.loan(0, 2, 2, 1);
        CHECK.due("2 of 10", room.read(0, 2, 2), 0);
        room.loan(0, 0, 3, 1);
        CHECK.due("3 of 21", room.read(0, 0, 2), 0);
        room.loan(1, 0, 4, 1);
        CHECK.due("1 of 21, not the last", room.read(1, 0, 2), 0);
    }

    private static void allRead() {
        SlipRoom room = CHECK.roomOf("book 10; book 12; reader 5; reader 4 ends;");
        room.loan(0, 0, 7, 5);
        CHECK.due("in the second hour", room.read(0, 0, 3), 8);
        CHECK.due("read", room.read(0, 0, 0), 10);
        CHECK.due("in a row", room.read(0, 0, 1), 10);
        room.drop(0, 12, -5);
        room.loan(0, 0, 12, 2);
        CHECK.due("read again later", room.read(0, 0, 3), 8);
        CHECK.due("another", room.read(1, 0, 3), -1);
        // the last page was read ahead, so that the ninth closes the row
        room.loan(1, 0, 20, 3);
        CHECK.due("with the last page ahead", room.read(1, 0, 3), 22);
        room.loan(1, 1, 30, 2);
        CHECK.due("not yet", room.read(1, 1, 3), -1);
        room.loan(1, 1, 32, 1);
        CHECK.due("by another loan", room.read(1, 1, 3), 32);
    }

    private static void unopened() {
        SlipRoom room = CHECK.roomOf("book 100; book 100; reader 30; reader 20; reader 1 ends;");
        CHECK.due("ahead", room.book(0, 2), 100);
        room.loan(0, 0, 0, 1);
        CHECK.due("30", room.book(0, 2), 70);
        room.loan(1, 0, 1, 2);
        CHECK.due("40", room.book(0, 2), 60);
        room.loan(2, 0, 3, 1);
        CHECK.due("and the last", room.book(0, 2), 59);
        CHECK.due("the other book", room.book(1, 2), 100);
        room.loan(0, 0, 4, 24);
        CHECK.due("none", room.book(0, 2), 0);
    }

    private static void rowsApart() {
        SlipRoom room = CHECK.roomOf("book 400;".repeat(10) + "reader 60;".repeat(8));
        CHECK.due("all of it", room.loan(3, 5, 0, 7), 400);
        CHECK.due("read", room.read(3, 5, 0), 400);
        CHECK.due("in a row", room.read(3, 5, 1), 400);
        for (int reader = 0; reader < 8; reader++) {
            for (int book = 0; book < 10; book++) {
                int want = reader == 3 && book == 5 ? 400 : 0;
                String call = "of " + reader + " in " + book;
                CHECK.due("read " + call, room.read(reader, book, 0), want);
                CHECK.due("in a row " + call, room.read(reader, book, 1), want);
                CHECK.due("last page " + call, room.has(reader, book, 400) ? 400 : 0, want);
                CHECK.due("page 321 " + call, room.has(reader, book, 321) ? 400 : 0, want);
                CHECK.due("unopened of " + book, room.book(book, 2), book == 5 ? 0 : 400);
            }
        }
    }

    private static void aheadOf() {
        SlipRoom room = CHECK.roomOf("book 100; reader 30; reader 20; reader 1;");
        room.loan(0, 0, 0, 1);
        CHECK.noElement("one has none", () -> room.ahead(0, 1, 0));
        CHECK.noElement("the other has none", () -> room.ahead(1, 0, 0));
        room.loan(1, 0, 1, 1);
        CHECK.due("behind in the book", room.ahead(0, 1, 0), 10);
        CHECK.due("ahead of it", room.ahead(1, 0, 0), -10);
        CHECK.noElement("both are one", () -> room.ahead(0, 0, 0));
        CHECK.noElement("none of both", () -> room.ahead(2, 2, 0));
        room.drop(0, 2, -25);
        CHECK.due("slip of 0", room.slip(0, 0), 6);
        CHECK.due("slip of 1", room.slip(1, 0), -1);
        CHECK.noElement("one is lost", () -> room.ahead(0, 1, 0));
        CHECK.noElement("one is lost", () -> room.ahead(1, 0, 0));
        room.loan(1, 0, 2, 1);
        CHECK.due("laid anew", room.slip(1, 0), 21);
        room.drop(0, 3, -5);
        CHECK.due("one lies at page 1", room.ahead(1, 0, 0), 15);
        CHECK.due("one lies at page 1", room.ahead(0, 1, 0), -15);
        CHECK.noElement("no such reader", () -> room.ahead(3, 0, 0));
        CHECK.noElement("no such other", () -> room.ahead(0, 3, 0));
        CHECK.noElement("no such book", () -> room.ahead(0, 1, 1));
    }

    private static void noSuch() {
        SlipRoom room = CHECK.roomOf("book 100; reader 30;");
        CHECK.noElement("loan(1, 0, 0, 1)", () -> room.loan(1, 0, 0, 1));
        CHECK.noElement("loan(-1, 0, -5, 99)", () -> room.loan(-1, 0, -5, 99));
        CHECK.noElement("loan(0, 1, -5, 99)", () -> room.loan(0, 1, -5, 99));
        CHECK.noElement("loan(0, -1, 0, 1)", () -> room.loan(0, -1, 0, 1));
        CHECK.noElement("loan(8, 0, 0, 1)", () -> room.loan(8, 0, 0, 1));
        CHECK.noElement("loan(0, 10, 0, 1)", () -> room.loan(0, 10, 0, 1));
        CHECK.noElement("slip(1, 0)", () -> room.slip(1, 0));
        CHECK.noElement("slip(-1, 0)", () -> room.slip(-1, 0));
        CHECK.noElement("slip(0, 1)", () -> room.slip(0, 1));
        CHECK.noElement("read(1, 0, 0)", () -> room.read(1, 0, 0));
        CHECK.noElement("read(0, 1, 0)", () -> room.read(0, 1, 0));
        CHECK.noElement("has(1, 0, 1)", () -> room.has(1, 0, 1));
        CHECK.noElement("has(0, 1, 1)", () -> room.has(0, 1, 1));
        for (int wrong : new int[] {-1, 1, 8, 10, Integer.MIN_VALUE, Integer.MAX_VALUE}) {
            CHECK.noElement("loan, reader " + wrong, () -> room.loan(wrong, 0, 0, 1));
            CHECK.noElement("loan, book " + wrong, () -> room.loan(0, wrong, 0, 1));
            CHECK.noElement("drop, book " + wrong, () -> room.drop(wrong, 0, 1));
            CHECK.noElement("slip, reader " + wrong, () -> room.slip(wrong, 0));
            CHECK.noElement("slip, book " + wrong, () -> room.slip(0, wrong));
            CHECK.noElement("read, reader " + wrong, () -> room.read(wrong, 0, 0));
            CHECK.noElement("read, book " + wrong, () -> room.read(0, wrong, 0));
            CHECK.noElement("has, reader " + wrong, () -> room.has(wrong, 0, 1));
            CHECK.noElement("has, book " + wrong, () -> room.has(0, wrong, 1));
            CHECK.noElement("ahead, reader " + wrong, () -> room.ahead(wrong, 0, 0));
            CHECK.noElement("ahead, other " + wrong, () -> room.ahead(0, wrong, 0));
            CHECK.noElement("ahead, book " + wrong, () -> room.ahead(0, 0, wrong));
            CHECK.noElement("book " + wrong, () -> room.book(wrong, 0));
            CHECK.noElement("reader " + wrong, () -> room.reader(wrong, 0));
        }
        CHECK.due("STATUS 1 counts no exceptions", room.count(8), 0);
        CHECK.due("no loans", room.count(2), 0);
    }
}
