/** Promises 1 to 7 as far as they tell of texts: the new object, tape, room, fault, counts. */
public final class TextTest {
    private static final Check CHECK = new Check("TextTest");

    public static void main(String[] args) {
        newObject();
        tape();
        roomTakesFirstBytes();
        cutTexts();
        fullTape();
        roomIsAllAnew();
        manyRooms();
        faultLeavesAll();
        counts();
        books();
        readers();
        goodTexts();
        misplaced();
        endsTooSoon();
        tooMuch();
        tooDeep();
        nots();
        noValues();
        CHECK.end();
    }

    private static String times(String text, int n) {
        return text.repeat(n);
    }

    private static void newObject() {
        SlipRoom room = new SlipRoom();
        for (int what = 0; what <= 11; what++) {
            CHECK.due("count(" + what + ") of a new object", room.count(what), 0);
        }
        CHECK.due("fault() of a new object", room.fault(), SlipRoom.NONE);
        CHECK.due("NONE", SlipRoom.NONE, -1);
        CHECK.noElement("book(0, 0) of a new object", () -> room.book(0, 0));
        CHECK.noElement("reader(0, 0) of a new object", () -> room.reader(0, 0));
        CHECK.fails("restore() of a new object", room.restore());
    }

    private static void tape() {
        SlipRoom room = new SlipRoom();
        for (int i = 1; i <= 35; i++) {
            CHECK.due("feed " + i, room.feed(0x20202020, 0x20202020, 0x20202020, 0x20202020, 0x20202020), 20 * i);
        }
        CHECK.due("feed 36", room.feed(0, 0, 0, 0, 0), -1);
        CHECK.due("count(5) when full", room.count(5), 700);
        CHECK.due("room(700) of blanks", room.room(700), 0);
        CHECK.due("count(5) behind room", room.count(5), 0);
        CHECK.due("feed behind room", room.feed(1, 2, 3, 4, 5), 20);

        SlipRoom order = new SlipRoom();
        CHECK.due("feed of 'book 7;'", order.feed(0x626f6f6b, 0x2037203b, 0x626f6f6b, 0x2038203b, -1), 20);
        CHECK.due("room(16)", order.room(16), 0);
        CHECK.due("pages of 0", order.book(0, 0), 7);
        CHECK.due("pages of 1", order.book(1, 0), 8);
        order.feed(0x626f6f6b, 0x2037203b, 0x626f6f6b, 0x2038203b, -1);
        CHECK.due("room(17), a byte 255", order.room(17), 1);
        CHECK.due("its place", order.fault(), 16);
    }

    private static void roomTakesFirstBytes() {
        SlipRoom room = new SlipRoom();
        Check.feed(room, "book 12; book 34;");
        CHECK.badArgument("room(21)", () -> room.room(21));
        CHECK.badArgument("room(-1)", () -> room.room(-1));
        CHECK.badArgument("room(least int)", () -> room.room(Integer.MIN_VALUE));
        CHECK.badArgument("room(greatest int)", () -> room.room(Integer.MAX_VALUE));
        CHECK.due("count(5) behind exceptions", room.count(5), 20);
        CHECK.due("room(8)", room.room(8), 0);
        CHECK.due("books", room.count(0), 1);
        CHECK.due("the rest of the tape is gone", room.count(5), 0);
        CHECK.due("room(0)", room.room(0), 0);
        CHECK.due("books of no text", room.count(0), 0);
        CHECK.badArgument("room(1) of no tape", () -> room.room(1));
    }

    /** What stands on the tape behind the n bytes is no part of the text. */
    private static void cut(String tape, int n, int fault, int place) {
        SlipRoom room = new SlipRoom();
        Check.feed(room, tape);
        CHECK.due("room(" + n + ") of '" + tape + "'", room.room(n), fault);
        CHECK.due("its place", room.fault(), place);
    }

    private static void cutTexts() {
        cut("book 12;", 6, 1, 6);
        cut("book 12;", 7, 1, 7);
        cut("book 401;", 7, 1, 7);
        cut("reader 1 endsx;", 13, 1, 13);
        cut("reader 1 ends;", 12, 1, 9);
        cut("book 1;book", 7, 0, -1);
        cut("book 1;   ?", 10, 0, -1);
        cut("reader 1 stops 12345;", 19, 1, 19);
        cut("reader 1 stops pages;", 19, 1, 19);
    }

    private static void fullTape() {
        CHECK.fault(" ".repeat(697) + "boo", 1, 697);
        CHECK.fault(" ".repeat(696) + "book", 1, 700);
        CHECK.fault(" ".repeat(694) + "book 1", 1, 700);
        CHECK.fault(" ".repeat(693) + "book 1;", 0, -1);
        CHECK.fault("book 1;" + " ".repeat(693), 0, -1);
        CHECK.fault("reader 1 stops 1" + "+1".repeat(341) + " ;", 0, -1);
        CHECK.fault("reader 1 stops 1" + "+1".repeat(342), 1, 700);
        CHECK.fault(";".repeat(700), 1, 0);
        CHECK.fault("reader 1 stops " + "(".repeat(685), 2, 21);
        CHECK.fault("book " + "1".repeat(695), 2, 5);
        CHECK.fault("x".repeat(700), 1, 0);
    }

    private static void manyRooms() {
        SlipRoom room = new SlipRoom();
        for (int i = 1; i <= 5; i++) {
            CHECK.due("room " + i, Check.tell(room, times("book 9;", i) + times("reader 9 stops page = " + i + ";", 6 - i)), 0);
            CHECK.due("books " + i, room.count(0), i);
            CHECK.due("readers " + i, room.count(1), 6 - i);
            CHECK.due("by the law " + i, room.loan(5 - i, i - 1, 0, 1), i);
            CHECK.due("a fault " + i, Check.tell(room, "book 1; reader 1 stops 1; reader"), 1);
        }
        CHECK.due("faults", room.count(7), 5);

        SlipRoom thick = new SlipRoom();
        for (int i = 0; i < 6; i++) {
            CHECK.due("thick room " + i, Check.tell(thick, "book 9;reader 9 stops 0" + times("*1", 330) + "=1;"), 0);
            thick.loan(0, 0, 0, 1);
            CHECK.due("by the thick law " + i, thick.slip(0, 0), 10);
            CHECK.due("thick room " + i, Check.tell(thick, "book 9;reader 9 stops 1" + times("*1", 330) + "=1;"), 0);
            thick.loan(0, 0, 0, 1);
            CHECK.due("by the thick law " + i, thick.slip(0, 0), 2);
        }
    }

    private static void roomIsAllAnew() {
        SlipRoom room = CHECK.roomOf("book 20; reader 5; reader 6;");
        room.loan(0, 0, 5, 2);
        room.loan(0, 0, 5, 2);
        room.drop(0, 7, 51);
        room.look(0, 1, 0, 1);
        room.look(0, 1, 4, 1);
        room.wish(0, 1, 1);
        room.wish(0, 0, 1);
        room.tale(0, 0, 5);
        room.waiting();
        room.image();
        CHECK.due("room anew", Check.tell(room, "book 20; reader 5;"), 0);
        CHECK.due("readers", room.count(1), 1);
        for (int what = 2; what <= 6; what++) {
            CHECK.due("count(" + what + ") anew", room.count(what), 0);
        }
        CHECK.due("slip anew", room.slip(0, 0), 0);
        CHECK.due("read anew", room.read(0, 0, 0), 0);
        CHECK.due("all read at, anew", room.read(0, 0, 3), -1);
        CHECK.fails("has anew", room.has(0, 0, 1));
        CHECK.due("unopened anew", room.book(0, 2), 20);
        CHECK.due("lent until, anew", room.book(0, 4), 0);
        CHECK.due("has a book until, anew", room.reader(0, 4), 0);
        CHECK.due("tales anew", room.settle(3, 0), -1);
        CHECK.noElement("the order is gone", () -> room.turn(0));
        CHECK.fails("the image is gone", room.restore());
        for (int what = 8; what <= 11; what++) {
            CHECK.due("STATUS stays: count(" + what + ")", room.count(what), 1);
        }
        CHECK.due("first loan anew", room.loan(0, 0, 0, 1), 5);
        CHECK.due("its begin", room.lent(0, 4), 1);

        CHECK.due("room", Check.tell(room, "book 9; reader 9 ends;"), 0);
        room.loan(0, 0, 7, 1);
        CHECK.due("all read", room.read(0, 0, 3), 7);
        CHECK.due("room", Check.tell(room, "book 9; reader 3 ends;"), 0);
        CHECK.due("all read, anew", room.read(0, 0, 3), -1);
        CHECK.due("slips, anew", room.book(0, 3), 0);
        room.loan(0, 0, 7, 1);
        CHECK.due("the first time again, with the last page", room.read(0, 0, 0), 4);
    }

    private static void faultLeavesAll() {
        SlipRoom room = CHECK.roomOf("book 20; reader 5 stops page = 3;");
        room.loan(0, 0, 5, 1);
        room.look(0, 1, 0, 1);
        room.wish(0, 1, 1);
        room.tale(0, 0, 5);
        room.waiting();
        room.image();
        CHECK.due("a text with a fault", Check.tell(room, "book 7; book 9; reader 1 stops 1; reader 2 stop;"), 1);
        CHECK.due("its place", room.fault(), 43);
        CHECK.due("tape is empty", room.count(5), 0);
        CHECK.due("STATUS 0", room.count(7), 1);
        CHECK.due("books stay", room.count(0), 1);
        CHECK.due("readers stay", room.count(1), 1);
        CHECK.due("pages stay", room.book(0, 0), 20);
        CHECK.due("pace stays", room.reader(0, 0), 5);
        CHECK.due("loans stay", room.count(2), 1);
        CHECK.due("looks stay", room.count(3), 1);
        CHECK.due("wishes stay", room.count(4), 1);
        CHECK.due("begin stays", room.count(6), 5);
        CHECK.due("slip stays", room.slip(0, 0), 4);
        CHECK.due("order stays", room.turn(0), 0);
        CHECK.due("tales stay", room.settle(3, 0), 1);
        CHECK.due("the law stays", room.loan(0, 0, 6, 1), 5);
        CHECK.holds("image stays", room.restore());
        CHECK.due("STATUS as the image", room.count(7), 0);
        CHECK.due("fault() is no part of the image", room.fault(), 43);
        CHECK.badArgument("room(1) of no tape", () -> room.room(1));
        CHECK.due("fault() behind an exception", room.fault(), 43);
        CHECK.due("a good text", Check.tell(room, ""), 0);
        CHECK.due("fault() behind a good text", room.fault(), -1);
    }

    private static void counts() {
        SlipRoom room = CHECK.roomOf("book 1; book 2; book 3; reader 4;");
        CHECK.due("books", room.count(0), 3);
        CHECK.due("readers", room.count(1), 1);
        CHECK.noElement("count(12)", () -> room.count(12));
        CHECK.noElement("count(-1)", () -> room.count(-1));
        CHECK.noElement("count(least int)", () -> room.count(Integer.MIN_VALUE));
        CHECK.noElement("count(greatest int)", () -> room.count(Integer.MAX_VALUE));
    }

    private static void books() {
        SlipRoom room = CHECK.roomOf("book 400 parts 400; book 1 parts 1; book 7 parts 9; book 0033;");
        CHECK.due("pages of 0", room.book(0, 0), 400);
        CHECK.due("part of 0", room.book(0, 1), 400);
        CHECK.due("pages of 1", room.book(1, 0), 1);
        CHECK.due("part of 1", room.book(1, 1), 1);
        CHECK.due("part of 2, longer than it", room.book(2, 1), 9);
        CHECK.due("pages of 3", room.book(3, 0), 33);
        CHECK.due("part of 3", room.book(3, 1), 0);
        CHECK.due("unopened of 3", room.book(3, 2), 33);
        CHECK.due("slips in 3", room.book(3, 3), 0);
        CHECK.due("lent until of 3", room.book(3, 4), 0);
        CHECK.noElement("book(4, 0)", () -> room.book(4, 0));
        CHECK.noElement("book(-1, 0)", () -> room.book(-1, 0));
        CHECK.noElement("book(0, 5)", () -> room.book(0, 5));
        CHECK.noElement("book(0, -1)", () -> room.book(0, -1));
    }

    private static void readers() {
        SlipRoom room = CHECK.roomOf(
                "reader 60 colour 3 back 20 ends stops 1; reader 1; reader 2 colour 0 back 0; reader 3 ends;");
        int[][] want = {{60, 3, 20, 1, 0}, {1, 0, 0, 0, 0}, {2, 0, 0, 0, 0}, {3, 0, 0, 1, 0}};
        for (int reader = 0; reader < 4; reader++) {
            for (int what = 0; what < 5; what++) {
                CHECK.due("reader(" + reader + ", " + what + ")", room.reader(reader, what), want[reader][what]);
            }
        }
        CHECK.noElement("reader(4, 0)", () -> room.reader(4, 0));
        CHECK.noElement("reader(-1, 0)", () -> room.reader(-1, 0));
        CHECK.noElement("reader(0, 5)", () -> room.reader(0, 5));
        CHECK.noElement("reader(0, -1)", () -> room.reader(0, -1));
    }

    private static void goodTexts() {
        CHECK.fault("", 0, -1);
        CHECK.fault("  \n ", 0, -1);
        CHECK.fault("book5parts2;reader7colour1back2endsstops", 1, 31);
        CHECK.fault("book5parts2;reader7colour1back2ends stops1;", 0, -1);
        CHECK.fault("\nbook\n5\n;\n", 0, -1);
        CHECK.fault(times("book 1;", 10) + times("reader 1;", 8), 0, -1);
        CHECK.fault("reader 1 stops page and left or into = read + hour - day * book / 3;", 0, -1);
        CHECK.fault("reader 1 stops not page<3and not not left=2or(1);", 0, -1);
        CHECK.fault("reader 1 stops 9999 * 0000;", 0, -1);
        CHECK.fault("reader 1 stops (1 < 2) < (3 = 4);", 0, -1);
        CHECK.fault("reader 1 stops ((((( 1 )))));", 0, -1);
        CHECK.fault("reader 1 stops 1 + (2 + (3 + (4 + (5 + (6)))));", 0, -1);
        CHECK.fault("reader 1 stops not not not not not not 1;", 0, -1);
        CHECK.fault("reader 1 stops not not not not (not not not not 1);", 0, -1);
        CHECK.fault("reader 1 stops not not not not 1 and not not not not 1;", 0, -1);
    }

    private static void misplaced() {
        CHECK.fault(";", 1, 0);
        CHECK.fault("7", 1, 0);
        CHECK.fault("  12345", 1, 2);
        CHECK.fault("books 1;", 1, 0);
        CHECK.fault("boo 1;", 1, 0);
        CHECK.fault("Book 1;", 1, 0);
        CHECK.fault("parts 1;", 1, 0);
        CHECK.fault("book;", 1, 4);
        CHECK.fault("book book", 1, 5);
        CHECK.fault("book -1;", 1, 5);
        CHECK.fault("book 1 1;", 1, 7);
        CHECK.fault("book 1 12345;", 1, 7);
        CHECK.fault("book 1 colour 1;", 1, 7);
        CHECK.fault("book 1 parts;", 1, 12);
        CHECK.fault("book 1 parts 1 parts 1;", 1, 15);
        CHECK.fault("book 1;;", 1, 7);
        CHECK.fault("book\t1;", 1, 4);
        CHECK.fault("book 1\r;", 1, 6);
        CHECK.fault("book 1" + (char) 200 + ";", 1, 6);
        CHECK.fault("book 1" + (char) 0 + ";", 1, 6);
        for (char sign = 0; sign < 10; sign++) {
            CHECK.fault("book 1;" + sign, 1, 7);
            CHECK.fault("book " + sign + ";", 1, 5);
            CHECK.fault("reader 1 stops " + sign + ";", 1, 15);
        }
        CHECK.fault("book 1 > ;", 1, 7);
        CHECK.fault("reader colour;", 1, 7);
        CHECK.fault("reader 1 back 1 colour 1;", 1, 16);
        CHECK.fault("reader 1 ends back 1;", 1, 14);
        CHECK.fault("reader 1 ends 1;", 1, 14);
        CHECK.fault("reader 1 stops 1 ends;", 1, 17);
        CHECK.fault("reader 1 parts 1;", 1, 9);
        CHECK.fault("reader 1 stops ;", 1, 15);
        CHECK.fault("reader 1 stops );", 1, 15);
        CHECK.fault("reader 1 stops ();", 1, 16);
        CHECK.fault("reader 1 stops 1);", 1, 16);
        CHECK.fault("reader 1 stops (1;", 1, 17);
        CHECK.fault("reader 1 stops 1 2;", 1, 17);
        CHECK.fault("reader 1 stops 1 12345;", 1, 17);
        CHECK.fault("reader 1 stops 1 not 2;", 1, 17);
        CHECK.fault("reader 1 stops 1 page;", 1, 17);
        CHECK.fault("reader 1 stops 1 foo;", 1, 17);
        CHECK.fault("reader 1 stops 1 (2);", 1, 17);
        CHECK.fault("reader 1 stops 1 < 2 < 3;", 1, 21);
        CHECK.fault("reader 1 stops 1 = 2 < 3;", 1, 21);
        CHECK.fault("reader 1 stops not 1 = 2 = 3;", 1, 25);
        CHECK.fault("reader 1 stops -1;", 1, 15);
        CHECK.fault("reader 1 stops 1 + * 2;", 1, 19);
        CHECK.fault("reader 1 stops 1 < = 2;", 1, 19);
        CHECK.fault("reader 1 stops not ;", 1, 19);
        CHECK.fault("reader 1 stops 1 and;", 1, 20);
        CHECK.fault("reader 1 stops 1 ? 2;", 1, 17);
    }

    private static void endsTooSoon() {
        CHECK.fault("book", 1, 4);
        CHECK.fault("book  ", 1, 6);
        CHECK.fault("book 1", 1, 6);
        CHECK.fault("book 1 parts", 1, 12);
        CHECK.fault("book 1 parts 3 ", 1, 15);
        CHECK.fault("reader", 1, 6);
        CHECK.fault("reader 1 colour", 1, 15);
        CHECK.fault("reader 1 back\n", 1, 14);
        CHECK.fault("reader 1 ends", 1, 13);
        CHECK.fault("reader 1 stops", 1, 14);
        CHECK.fault("reader 1 stops 1 +", 1, 18);
        CHECK.fault("reader 1 stops (", 1, 16);
        CHECK.fault("reader 1 stops (1", 1, 17);
        CHECK.fault("reader 1 stops not", 1, 18);
        CHECK.fault("reader 1 stops ((((((", 1, 21);
    }

    private static void tooMuch() {
        CHECK.fault("book 0;", 2, 5);
        CHECK.fault("book 401;", 2, 5);
        CHECK.fault("book 00001;", 2, 5);
        CHECK.fault("book 99999999999999999999;", 2, 5);
        CHECK.fault("book 9 parts 0;", 2, 13);
        CHECK.fault("book 9 parts 401;", 2, 13);
        CHECK.fault("book 9 parts 00009;", 2, 13);
        CHECK.fault("reader 0;", 2, 7);
        CHECK.fault("reader 61;", 2, 7);
        CHECK.fault("reader 1 colour 4;", 2, 16);
        CHECK.fault("reader 1 colour 00000;", 2, 16);
        CHECK.fault("reader 1 back 21;", 2, 14);
        CHECK.fault("reader 1 stops 10000;", 2, 15);
        CHECK.fault("reader 1 stops 00000;", 2, 15);
        CHECK.fault("reader 1 stops 1 + 12345;", 2, 19);
        CHECK.fault(times("book 1;", 11), 2, 70);
        CHECK.fault(times("book 1;", 10) + "book", 2, 70);
        CHECK.fault(times("reader 1;", 9), 2, 72);
        CHECK.fault("book 401 foo", 2, 5);
    }

    private static void tooDeep() {
        String six = "reader 1 stops ((((((";
        CHECK.fault(six + "1))))));", 2, 21);
        CHECK.fault(six + " 12345", 2, 22);
        CHECK.fault(six + "page", 2, 21);
        CHECK.fault(six + "not 1", 2, 21);
        CHECK.fault(six + "foo", 2, 21);
        CHECK.fault(six + "and", 2, 21);
        CHECK.fault(six + "(", 2, 21);
        CHECK.fault(six + ")", 1, 21);
        CHECK.fault(six + "+", 1, 21);
        CHECK.fault(six + ";", 1, 21);
        CHECK.fault(six + "?", 1, 21);
        CHECK.fault("reader 1 stops (((((1))))) + (((((1))))) * (((((1 + (1)", 2, 53);
    }

    private static void nots() {
        CHECK.fault("reader 1 stops not not not not not not not 1;", 2, 39);
        CHECK.fault("reader 1 stops not not not not not not not not 1;", 2, 39);
        CHECK.fault("reader 1 stops 1 or not not not not not not not 1;", 2, 44);
        CHECK.fault("reader 1 stops not not not not not not foo;", 3, 39);
    }

    private static void noValues() {
        CHECK.fault("reader 1 stops foo;", 3, 15);
        CHECK.fault("reader 1 stops zaz;", 3, 15);
        CHECK.fault("reader 1 stops z;", 3, 15);
        CHECK.fault("reader 1 stops a;", 3, 15);
        CHECK.fault("reader 1 stops pages;", 3, 15);
        CHECK.fault("reader 1 stops parts;", 3, 15);
        CHECK.fault("reader 1 stops and;", 3, 15);
        CHECK.fault("reader 1 stops or 1;", 3, 15);
        CHECK.fault("reader 1 stops reader;", 3, 15);
        CHECK.fault("reader 1 stops stops;", 3, 15);
        CHECK.fault("reader 1 stops 1 + not 1;", 3, 19);
        CHECK.fault("reader 1 stops 1 < not 1;", 3, 19);
        CHECK.fault("reader 1 stops 1 * not 1;", 3, 19);
        CHECK.fault("reader 1 stops 1 and or 1;", 3, 21);
        CHECK.fault("reader 1 stops (or 1);", 3, 16);
        CHECK.fault("reader 1 stops (((((foo", 3, 20);
    }
}
