/** Promises 20 to 22: wishes, the least waiting, its order. */
public final class WishTest {
    private static final Check CHECK = new Check("WishTest");

    public static void main(String[] args) {
        wishesAreCounted();
        wishesRefused();
        leastWaiting();
        firstOfLikeOnes();
        orderIsKept();
        noSuch();
        CHECK.end();
    }

    private static void wishesAreCounted() {
        SlipRoom room = CHECK.roomOf("reader 1; reader 2;");
        CHECK.due("the first", room.wish(1, 1, 0), 1);
        CHECK.due("the second", room.wish(1, 99, 999), 2);
        CHECK.due("wishes", room.count(4), 2);
    }

    private static void refused(SlipRoom room, int reader, int hours, int ready) {
        int before = room.count(11);
        int wishes = room.count(4);
        String call = "wish(" + reader + ", " + hours + ", " + ready + ")";
        CHECK.due(call, room.wish(reader, hours, ready), -1);
        CHECK.due("STATUS 4 behind " + call, room.count(11), before + 1);
        CHECK.due("wishes behind " + call, room.count(4), wishes);
    }

    private static void wishesRefused() {
        SlipRoom room = CHECK.roomOf("reader 1;");
        refused(room, 0, 0, 0);
        refused(room, 0, 100, 0);
        refused(room, 0, 1, -1);
        refused(room, 0, 1, 1000);
        refused(room, 0, Integer.MIN_VALUE, Integer.MAX_VALUE);
        for (int i = 1; i <= 7; i++) {
            CHECK.due("wish " + i, room.wish(0, 1, 0), i);
        }
        refused(room, 0, 1, 0);
        CHECK.due("0 + 1 + .. + 6", room.waiting(), 21);
    }

    private static void order(SlipRoom room, int waiting, int... want) {
        CHECK.due("waiting", room.waiting(), waiting);
        for (int i = 0; i < want.length; i++) {
            CHECK.due("turn(" + i + ")", room.turn(i), want[i]);
        }
        CHECK.noElement("turn behind the last", () -> room.turn(want.length));
    }

    private static void leastWaiting() {
        SlipRoom room = CHECK.roomOf("reader 1;");
        order(room, 0);
        room.wish(0, 99, 999);
        order(room, 0, 0);
        room.wish(0, 10, 990);
        order(room, 1, 1, 0);
        SlipRoom shortFirst = CHECK.roomOf("reader 1;");
        shortFirst.wish(0, 9, 0);
        shortFirst.wish(0, 3, 0);
        shortFirst.wish(0, 6, 0);
        order(shortFirst, 3 + 9, 1, 2, 0);
        SlipRoom idle = CHECK.roomOf("reader 1;");
        idle.wish(0, 90, 0);
        idle.wish(0, 1, 2);
        idle.wish(0, 1, 3);
        idle.wish(0, 1, 5);
        order(idle, 6, 1, 2, 3, 0);
    }

    private static void firstOfLikeOnes() {
        SlipRoom room = CHECK.roomOf("reader 1;");
        room.wish(0, 2, 10);
        room.wish(0, 2, 0);
        room.wish(0, 2, 10);
        room.wish(0, 2, 0);
        order(room, 4, 1, 3, 0, 2);
        SlipRoom apart = CHECK.roomOf("reader 1;");
        apart.wish(0, 1, 5);
        apart.wish(0, 5, 5);
        apart.wish(0, 1, 5);
        order(apart, 3, 0, 2, 1);
        SlipRoom mixed = CHECK.roomOf("reader 1;");
        mixed.wish(0, 4, 4);
        mixed.wish(0, 4, 0);
        mixed.wish(0, 4, 8);
        order(mixed, 0, 1, 0, 2);
    }

    private static void orderIsKept() {
        SlipRoom room = CHECK.roomOf("reader 1;");
        room.wish(0, 5, 0);
        CHECK.noElement("no order yet", () -> room.turn(0));
        room.wish(0, 2, 0);
        order(room, 2, 1, 0);
        room.wish(0, 1, 0);
        CHECK.due("still the old one", room.turn(0), 1);
        CHECK.noElement("of two wishes", () -> room.turn(2));
        order(room, 1 + 3, 2, 1, 0);
        CHECK.noElement("turn(-1)", () -> room.turn(-1));
        CHECK.noElement("turn(least int)", () -> room.turn(Integer.MIN_VALUE));
        CHECK.noElement("turn(7)", () -> room.turn(7));
    }

    private static void noSuch() {
        SlipRoom room = CHECK.roomOf("reader 1;");
        CHECK.noElement("wish(1, 1, 1)", () -> room.wish(1, 1, 1));
        CHECK.noElement("wish(8, 1, 1)", () -> room.wish(8, 1, 1));
        CHECK.noElement("wish(-1, 0, -1)", () -> room.wish(-1, 0, -1));
        CHECK.due("STATUS 4 counts no exceptions", room.count(11), 0);
        CHECK.due("no wishes", room.count(4), 0);
    }
}
