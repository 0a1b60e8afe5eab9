import java.util.NoSuchElementException;

/** What the tests share: answers that are due, exceptions that are due, rooms from texts. */
final class Check {
    private final String name;
    private int wrong = 0;
    private int checks = 0;

    Check(String name) {
        this.name = name;
    }

    void due(String call, long got, long want) {
        checks++;
        if (got != want) {
            wrong++;
            System.out.println(name + ": " + call + " answered " + got + ", due is " + want);
        }
    }

    void holds(String call, boolean got) {
        due(call, got ? 1 : 0, 1);
    }

    void fails(String call, boolean got) {
        due(call, got ? 1 : 0, 0);
    }

    void noElement(String call, Runnable run) {
        throwsJust(call, NoSuchElementException.class, run);
    }

    void badArgument(String call, Runnable run) {
        throwsJust(call, IllegalArgumentException.class, run);
    }

    private void throwsJust(String call, Class<?> want, Runnable run) {
        checks++;
        Class<?> got = null;
        try {
            run.run();
        } catch (RuntimeException e) {
            got = e.getClass();
        }
        if (got != want) {
            wrong++;
            System.out.println(name + ": " + call + " threw " + got + ", due is " + want);
        }
    }

    void end() {
        System.out.println(name + ": " + checks + " checks, " + wrong + " wrong");
        if (wrong != 0) {
            System.exit(1);
        }
    }

    /** Puts a text, filled up with blanks to whole feeds, on the tape. */
    static void feed(SlipRoom room, String text) {
        for (int at = 0; at < text.length(); at += 20) {
            int[] five = new int[5];
            for (int i = 0; i < 20; i++) {
                int sign = at + i < text.length() ? text.charAt(at + i) : ' ';
                five[i / 4] |= sign << (24 - 8 * (i % 4));
            }
            room.feed(five[0], five[1], five[2], five[3], five[4]);
        }
    }

    /** room()'s answer to a text. */
    static int tell(SlipRoom room, String text) {
        feed(room, text);
        return room.room(text.length());
    }

    SlipRoom roomOf(String text) {
        SlipRoom room = new SlipRoom();
        due("room of " + text, tell(room, text), 0);
        return room;
    }

    /** A text whose FAULT and its place are due. */
    void fault(String text, int fault, int place) {
        SlipRoom room = new SlipRoom();
        due("room of '" + text + "'", tell(room, text), fault);
        due("fault() of '" + text + "'", room.fault(), place);
        due("count(7) of '" + text + "'", room.count(7), fault == 0 ? 0 : 1);
    }
}
