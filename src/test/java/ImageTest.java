/** Promises 25 and 26: an image, and all as it was. */
public final class ImageTest {
    private static final Check CHECK = new Check("ImageTest");

    public static void main(String[] args) {
        allThatIsKept();
        oftenRestored();
        inPlaceOfAnother();
        whereItWasLaid();
        loansThatNeverWere();
        notKept();
        CHECK.end();
    }

    private static SlipRoom room() {
        SlipRoom room = CHECK.roomOf("book 30 parts 4; book 12; reader 5; reader 6 ends;");
        room.loan(0, 0, 1, 2);
        room.loan(1, 0, 3, 1);
        room.drop(0, 4, 20);
        room.look(0, 3, 0, 11);
        room.wish(0, 5, 1);
        room.tale(0, 0, 3);
        room.loan(0, 0, 0, 1);
        room.drop(0, 0, 1);
        room.look(0, 0, 9, 1);
        room.wish(0, 0, 0);
        Check.tell(room, "no room");
        return room;
    }

    /** All that the image keeps, as answers. */
    private static String answers(SlipRoom room) {
        StringBuilder all = new StringBuilder();
        for (int what = 0; what <= 11; what++) {
            all.append(what == 5 ? 0 : room.count(what)).append(' ');
        }
        for (int book = 0; book < 2; book++) {
            for (int what = 0; what < 5; what++) {
                all.append(room.book(book, what)).append(' ');
            }
            for (int reader = 0; reader < 2; reader++) {
                all.append(room.slip(reader, book)).append(' ').append(room.reader(reader, 4)).append(' ');
                for (int what = 0; what < 4; what++) {
                    all.append(room.read(reader, book, what)).append(' ');
                }
                for (int page = 1; page <= room.book(book, 0); page++) {
                    all.append(room.has(reader, book, page) ? '1' : '0');
                }
            }
            all.append(room.ways(book)).append(' ');
        }
        for (int loan = 0; loan < room.count(2); loan++) {
            for (int what = 0; what < 6; what++) {
                all.append(room.lent(loan, what)).append(' ');
            }
        }
        for (int look = 0; look < room.count(3); look++) {
            all.append(room.whose(look, 0)).append(' ');
        }
        for (int tales = 0; tales < 64; tales++) {
            all.append(room.settle(tales, 0)).append(' ').append(room.settle(tales, 1)).append(' ');
        }
        return all.toString();
    }

    private static void change(SlipRoom room) {
        room.loan(1, 0, 10, 9);
        room.loan(0, 1, 10, 9);
        room.loan(0, 0, 0, 1);
        room.drop(0, 30, 0);
        room.drop(0, 0, 1);
        room.look(1, 3, 0, 2);
        room.look(0, 0, 9, 1);
        room.wish(0, 5, 1);
        room.wish(0, 0, 0);
        room.tale(0, 0, 0);
        room.tale(1, 1, 8);
        Check.tell(room, "no room");
    }

    private static void same(String what, String got, String want) {
        CHECK.holds(what, got.equals(want));
    }

    private static void allThatIsKept() {
        SlipRoom room = room();
        CHECK.fails("no image yet", room.restore());
        String before = answers(room);
        room.image();
        same("an image changes nothing", answers(room), before);
        change(room);
        CHECK.fails("changed", answers(room).equals(before));
        CHECK.holds("restore", room.restore());
        same("as it was", answers(room), before);
        CHECK.due("it goes on as it would have", room.loan(0, 0, 5, 1), 5);
        CHECK.due("slip", room.slip(0, 0), 14);
        SlipRoom twin = room();
        twin.loan(0, 0, 5, 1);
        same("as a room without an image", answers(room), answers(twin));
    }

    private static void oftenRestored() {
        SlipRoom room = room();
        room.image();
        String before = answers(room);
        for (int i = 0; i < 3; i++) {
            change(room);
            CHECK.holds("restore " + i, room.restore());
            same("as it was, " + i, answers(room), before);
        }
    }

    private static void inPlaceOfAnother() {
        SlipRoom room = room();
        room.image();
        change(room);
        String before = answers(room);
        room.image();
        room.drop(1, 40, 1);
        CHECK.holds("restore", room.restore());
        same("the later one", answers(room), before);
    }

    private static void whereItWasLaid() {
        SlipRoom room = CHECK.roomOf("book 40 parts 10; reader 5;");
        room.loan(0, 0, 0, 1);
        room.image();
        room.loan(0, 0, 1, 6);
        CHECK.holds("restore", room.restore());
        room.drop(0, 1, 0);
        CHECK.due("pages", room.loan(0, 0, 1, 1), 5);
        CHECK.due("in the part of where it was laid then", room.lent(1, 4), 1);
    }

    private static void loansThatNeverWere() {
        SlipRoom room = CHECK.roomOf("book 40; reader 5;");
        room.look(0, 9, 0, 2);
        room.image();
        room.loan(0, 0, 0, 5);
        CHECK.due("ways by a loan", room.ways(0), 1);
        CHECK.holds("restore", room.restore());
        CHECK.due("no ways without it", room.ways(0), 0);
        CHECK.noElement("nor a loan", () -> room.lent(0, 0));
    }

    /** The order, the tape and fault() are not among what an image keeps. */
    private static void notKept() {
        SlipRoom room = CHECK.roomOf("reader 1;");
        room.wish(0, 5, 0);
        room.image();
        room.wish(0, 1, 0);
        CHECK.due("waiting", room.waiting(), 1);
        room.feed(0, 0, 0, 0, 0);
        CHECK.holds("restore", room.restore());
        CHECK.due("wishes", room.count(4), 1);
        CHECK.due("the order stays", room.turn(0), 1);
        CHECK.due("the tape stays", room.count(5), 20);
        CHECK.due("waiting", room.waiting(), 0);
        CHECK.due("the order now", room.turn(0), 0);
        CHECK.noElement("of one wish", () -> room.turn(1));
    }
}
