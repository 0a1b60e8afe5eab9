import java.util.NoSuchElementException;

/** One object, called in words ("loan 0 0 5 1"); answers are words too. */
final class Told {
    /** The document promises nothing behind it, so that a test that goes further tests nothing. */
    static final int MOST_CALLS = 512;
    static final String NO_ELEMENT = "no element";
    static final String BAD_ARGUMENT = "bad argument";

    private final SlipRoom room = new SlipRoom();
    private int calls = 0;

    int calls() {
        return calls;
    }

    /** "tell TEXT" feeds a text, filled up with blanks, and calls room(); "blanks" feeds twenty of them. */
    String answer(String call) {
        if (call.startsWith("tell ")) {
            return tell(call.substring("tell ".length()));
        }
        count(1);
        try {
            return plain(call.split(" "));
        } catch (RuntimeException e) {
            return nameOf(e);
        }
    }

    private static String nameOf(RuntimeException e) {
        Class<?> kind = e.getClass();
        return kind == NoSuchElementException.class ? NO_ELEMENT
                : kind == IllegalArgumentException.class ? BAD_ARGUMENT : kind.getName();
    }

    private void count(int more) {
        calls += more;
        if (calls > MOST_CALLS) {
            throw new AssertionError("more than " + MOST_CALLS + " calls of one object");
        }
    }

    /** room()'s answer; with a FAULT its place too. */
    private String tell(String text) {
        count((text.length() + 19) / 20 + 2);
        int fault = Check.tell(room, text);
        int place = room.fault();
        return fault == 0 && place == SlipRoom.NONE ? "0" : "fault " + fault + " at " + place;
    }

    private String plain(String[] words) {
        int[] n = new int[5];
        for (int i = 1; i < words.length; i++) {
            n[i - 1] = Long.decode(words[i]).intValue();
        }
        switch (words[0]) {
            case "image":
                room.image();
                return "kept";
            case "has":
                return "" + room.has(n[0], n[1], n[2]);
            case "tale":
                return "" + room.tale(n[0], n[1], n[2]);
            case "restore":
                return "" + room.restore();
            default:
                return "" + number(words[0], n[0], n[1], n[2], n[3], n[4]);
        }
    }

    private int number(String name, int a, int b, int c, int d, int e) {
        return switch (name) {
            case "feed" -> room.feed(a, b, c, d, e);
            case "blanks" -> room.feed(0x20202020, 0x20202020, 0x20202020, 0x20202020, 0x20202020);
            case "room" -> room.room(a);
            case "fault" -> room.fault();
            case "count" -> room.count(a);
            case "book" -> room.book(a, b);
            case "reader" -> room.reader(a, b);
            case "loan" -> room.loan(a, b, c, d);
            case "lent" -> room.lent(a, b);
            case "drop" -> room.drop(a, b, c);
            case "slip" -> room.slip(a, b);
            case "read" -> room.read(a, b, c);
            case "ahead" -> room.ahead(a, b, c);
            case "look" -> room.look(a, b, c, d);
            case "ways" -> room.ways(a);
            case "whose" -> room.whose(a, b);
            case "ends" -> room.ends(a, b, c);
            case "moved" -> room.moved(a);
            case "wish" -> room.wish(a, b, c);
            case "waiting" -> room.waiting();
            case "turn" -> room.turn(a);
            case "settle" -> room.settle(a, b);
            default -> throw new AssertionError("no such call: " + name);
        };
    }
}
