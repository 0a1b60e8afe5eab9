/** Promises 23 and 24: tales, and the fewest looks that settle them. */
public final class TaleTest {
    private static final Check CHECK = new Check("TaleTest");

    public static void main(String[] args) {
        talesRefused();
        oneOrNone();
        alike();
        oneLook();
        leastBook();
        nextLookByWhatIsSeen();
        worstOfWhatIsSeen();
        chain();
        toldAnew();
        wrongArguments();
        CHECK.end();
    }

    private static void settles(SlipRoom room, int tales, int looks, int book) {
        CHECK.due("settle(" + tales + ", 0)", room.settle(tales, 0), looks);
        CHECK.due("settle(" + tales + ", 1)", room.settle(tales, 1), book);
    }

    private static void talesRefused() {
        SlipRoom room = CHECK.roomOf("book 9;");
        CHECK.holds("tale(0, 0, 0)", room.tale(0, 0, 0));
        CHECK.holds("tale(5, 0, 401)", room.tale(5, 0, 401));
        CHECK.fails("tale(-1, 0, 1)", room.tale(-1, 0, 1));
        CHECK.fails("tale(6, 0, 1)", room.tale(6, 0, 1));
        CHECK.fails("tale(0, 0, -1)", room.tale(0, 0, -1));
        CHECK.fails("tale(0, 0, 402)", room.tale(0, 0, 402));
        CHECK.fails("tale(least int, 0, 1)", room.tale(Integer.MIN_VALUE, 0, 1));
        CHECK.noElement("tale(0, 1, 1)", () -> room.tale(0, 1, 1));
        CHECK.noElement("tale(0, 10, 1)", () -> room.tale(0, 10, 1));
        CHECK.noElement("tale(6, -1, 402)", () -> room.tale(6, -1, 402));
        settles(room, 33, 1, 0);
        settles(room, 3, -1, -1);
    }

    private static void oneOrNone() {
        SlipRoom room = CHECK.roomOf("book 9;");
        settles(room, 0, 0, -1);
        for (int tale = 0; tale < 6; tale++) {
            settles(room, 1 << tale, 0, -1);
        }
        SlipRoom empty = new SlipRoom();
        settles(empty, 0, 0, -1);
        settles(empty, 32, 0, -1);
        settles(empty, 48, -1, -1);
    }

    private static void alike() {
        SlipRoom room = CHECK.roomOf("book 9; book 9;");
        room.tale(0, 0, 4);
        room.tale(1, 0, 4);
        room.tale(2, 0, 5);
        settles(room, 3, -1, -1);
        settles(room, 5, 1, 0);
        settles(room, 7, -1, -1);
        room.tale(1, 1, 1);
        settles(room, 3, 1, 1);
        settles(room, 7, 2, 0);
    }

    private static void oneLook() {
        SlipRoom room = CHECK.roomOf("book 9; book 9; book 9;");
        for (int tale = 0; tale < 6; tale++) {
            room.tale(tale, 2, tale);
        }
        settles(room, 63, 1, 2);
        settles(room, 42, 1, 2);
    }

    private static void leastBook() {
        SlipRoom room = CHECK.roomOf("book 9; book 9; book 9;");
        room.tale(1, 1, 3);
        room.tale(1, 2, 3);
        settles(room, 3, 1, 1);
        room.tale(1, 0, 3);
        settles(room, 3, 1, 0);
        // book 0 parts 0 from 1 and 2, but only book 1 parts all three
        room.tale(2, 0, 3);
        room.tale(2, 1, 4);
        settles(room, 7, 1, 1);
    }

    /** Book 2 tells two halves; then it depends on the half which book is of use. */
    private static void nextLookByWhatIsSeen() {
        SlipRoom room = CHECK.roomOf("book 9; book 9; book 9;");
        room.tale(2, 2, 1);
        room.tale(3, 2, 1);
        room.tale(1, 0, 1);
        room.tale(3, 1, 1);
        settles(room, 15, 2, 2);
        settles(room, 7, 2, 0);
        settles(room, 3, 1, 0);
        settles(room, 12, 1, 1);
    }

    private static void worstOfWhatIsSeen() {
        SlipRoom room = CHECK.roomOf("book 9; book 9; book 9;");
        // book 0 parts 0 from the four others, books 1 and 2 part these by two and two
        for (int tale = 1; tale < 5; tale++) {
            room.tale(tale, 0, 7);
            room.tale(tale, 1, tale / 3);
            room.tale(tale, 2, tale % 2);
        }
        settles(room, 30, 2, 1);
        settles(room, 31, 3, 0);
    }

    private static void chain() {
        SlipRoom room = CHECK.roomOf("book 9;".repeat(10));
        for (int tale = 0; tale < 6; tale++) {
            room.tale(tale, 9 - tale, 1);
        }
        settles(room, 63, 5, 4);
        settles(room, 31, 4, 5);
        settles(room, 3, 1, 8);
    }

    private static void toldAnew() {
        SlipRoom room = CHECK.roomOf("book 9;");
        room.tale(0, 0, 7);
        settles(room, 3, 1, 0);
        room.tale(1, 0, 7);
        settles(room, 3, -1, -1);
        room.tale(0, 0, 0);
        settles(room, 3, 1, 0);
    }

    private static void wrongArguments() {
        SlipRoom room = CHECK.roomOf("book 9;");
        CHECK.noElement("settle(0, 2)", () -> room.settle(0, 2));
        CHECK.noElement("settle(0, -1)", () -> room.settle(0, -1));
        CHECK.noElement("settle(64, 2)", () -> room.settle(64, 2));
        CHECK.badArgument("settle(64, 0)", () -> room.settle(64, 0));
        CHECK.badArgument("settle(-1, 1)", () -> room.settle(-1, 1));
        CHECK.badArgument("settle(least int, 0)", () -> room.settle(Integer.MIN_VALUE, 0));
    }
}
