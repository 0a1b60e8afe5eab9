import java.util.NoSuchElementException;
import java.util.Random;
import java.util.function.IntSupplier;

/** Long runs of calls, always the same ones, on the class and on the model: all answers must agree. */
public final class ModelTest {
    private static final int RUNS = 600;
    private static final String[] WORDS = {"book", "parts", "reader", "colour", "back", "ends", "stops", "or", "and",
        "not", "page", "left", "into", "read", "hour", "day", "x", "books", ";", "(", ")", "+", "-", "*", "/", "<",
        "=", "0", "1", "7", "400", "9999", "00000", "12345", "?", "\t", "\n"};
    private static final String[] VALUES = {"page", "left", "into", "read", "hour", "day", "book"};
    private static final int[] EDGES = {-1, 0, 1, Integer.MIN_VALUE, Integer.MAX_VALUE, 400, 401, 402, 8759, 8760};

    private final Random random;
    private SlipRoom room = new SlipRoom();
    private Model model = new Model();
    private final StringBuilder log = new StringBuilder();
    private int hour = 0;
    private int wrong = 0;
    private static long calls = 0;

    private ModelTest(int seed) {
        random = new Random(seed);
    }

    public static void main(String[] args) {
        int wrong = 0;
        for (int run = 0; run < RUNS && wrong < 5; run++) {
            ModelTest test = new ModelTest(run);
            test.run(run);
            wrong += test.wrong;
        }
        System.out.println("ModelTest: " + calls + " calls, " + wrong + " runs wrong");
        if (wrong != 0) {
            System.exit(1);
        }
    }

    private void run(int run) {
        int most = 20 + random.nextInt(250);
        tellRoom();
        for (int call = 0; call < most && wrong == 0; call++) {
            step();
        }
        if (wrong != 0) {
            System.out.println("run " + run + ": " + log);
        }
    }

    private int below(int n) {
        return random.nextInt(n);
    }

    private int of(int n) {
        return below(40) == 0 ? EDGES[below(EDGES.length)] : below(40) == 0 ? n : below(Math.max(1, n));
    }

    // ---- texts

    private String expr(int depth) {
        StringBuilder s = new StringBuilder();
        int parts = 1 + below(3);
        for (int i = 0; i < parts; i++) {
            if (i > 0) {
                s.append(new String[] {" or ", " and ", "+", " - ", "*", "/", "<", " = "}[below(8)]);
            } else {
                s.append("not ".repeat(below(8) == 0 ? below(8) : 0));
            }
            if (depth < 7 && below(4) == 0) {
                s.append("(".repeat(below(12) == 0 ? 4 : 1)).append(expr(depth + 1)).append(")");
            } else if (below(2) == 0) {
                s.append(VALUES[below(7)]);
            } else {
                s.append(below(6) == 0 ? below(10000) : below(12));
            }
        }
        return s.toString();
    }

    private String clause(int books, int readers) {
        if (below(books + readers) < books) {
            return "book " + (below(5) == 0 ? 1 + below(400) : 1 + below(40))
                    + (below(2) == 0 ? " parts " + (1 + below(12)) : "") + ";";
        }
        return "reader " + (below(6) == 0 ? 1 + below(60) : 1 + below(9))
                + (below(3) == 0 ? " colour " + below(4) : "") + (below(2) == 0 ? " back " + below(5) : "")
                + (below(4) == 0 ? " ends" : "") + (below(2) == 0 ? " stops " + expr(0) : "") + ";";
    }

    private String text() {
        StringBuilder s = new StringBuilder("book " + (1 + below(60)) + ";reader " + (1 + below(12)) + ";");
        int clauses = below(10) == 0 ? 24 : 1 + below(9);
        int books = 1 + below(4);
        int readers = 1 + below(4);
        for (int i = 0; i < clauses; i++) {
            s.append(clause(books, readers));
        }
        return s.toString();
    }

    private String spoilt(String text) {
        StringBuilder s = new StringBuilder(text);
        int at = below(s.length() + 1);
        switch (below(4)) {
            case 0 -> s.setLength(at);
            case 1 -> s.insert(at, " " + WORDS[below(WORDS.length)] + " ");
            case 2 -> s.delete(at, Math.min(s.length(), at + 1 + below(6)));
            default -> s.insert(at, (char) below(256));
        }
        return s.toString();
    }

    private void tellRoom() {
        for (int tries = 0; tries < 30; tries++) {
            String text = text();
            if (below(3) == 0) {
                text = spoilt(text);
            }
            if (text.length() <= 700 && feedAndTell(text) == 0) {
                hour = 0;
                return;
            }
        }
    }

    private int feedAndTell(String text) {
        log.append("\n\"").append(text).append("\" ");
        for (int at = 0; at < text.length(); at += 20) {
            int[] n = new int[5];
            for (int i = 0; i < 20; i++) {
                n[i / 4] |= (at + i < text.length() ? text.charAt(at + i) : 32) << (24 - 8 * (i % 4));
            }
            compare("feed", () -> room.feed(n[0], n[1], n[2], n[3], n[4]),
                    () -> model.feed(n[0], n[1], n[2], n[3], n[4]));
        }
        int answer = compare("room", () -> room.room(text.length()), () -> model.room(text.length()));
        compare("fault", () -> room.fault(), () -> model.fault());
        return answer;
    }

    // ---- calls

    private static long answer(IntSupplier call) {
        try {
            return call.getAsInt();
        } catch (RuntimeException e) {
            Class<?> kind = e.getClass();
            return kind == NoSuchElementException.class ? 1L << 40
                    : kind == IllegalArgumentException.class ? 1L << 41 : 1L << 42;
        }
    }

    private int compare(String call, IntSupplier ours, IntSupplier theirs) {
        calls++;
        long want = answer(theirs);
        long got = answer(ours);
        log.append(call).append('=').append(want).append(' ');
        if (got != want) {
            wrong = 1;
            log.append("ANSWERED ").append(got);
        }
        return (int) want;
    }

    private static int bit(boolean b) {
        return b ? 1 : 0;
    }

    private void step() {
        int books = model.count(0);
        int readers = model.count(1);
        int a = of(readers);
        int b = of(books);
        int c = of(readers);
        int kind = below(100);
        if (kind < 22) {
            loanOrDrop(a, b);
        } else if (kind < 32) {
            lookAt(b);
        } else if (kind < 38) {
            int hours = below(3) == 0 ? of(101) : 1 + below(9);
            int ready = below(3) == 0 ? of(1001) : below(20);
            compare("wish(" + a + "," + hours + "," + ready + ")", () -> room.wish(a, hours, ready),
                    () -> model.wish(a, hours, ready));
        } else if (kind < 44) {
            int tale = of(6);
            int page = below(4) == 0 ? of(403) : below(3);
            compare("tale(" + tale + "," + b + "," + page + ")", () -> bit(room.tale(tale, b, page)),
                    () -> bit(model.tale(tale, b, page)));
        } else if (kind < 46) {
            imageOrRoom();
        } else if (kind < 70) {
            askOfReading(a, b, c);
        } else if (kind < 88) {
            askOfLooks(a, b);
        } else {
            askOfTheRest();
        }
    }

    private void loanOrDrop(int reader, int book) {
        int jump = below(8) == 0 ? below(60) : below(6);
        int from = below(12) == 0 ? of(8761) : hour + jump - (below(10) == 0 ? 8 : 0);
        if (below(150) == 0) {
            hour = 8700;
        }
        int hours = below(12) == 0 ? of(26) : 1 + below(5);
        if (below(4) > 0) {
            compare("loan(" + reader + "," + book + "," + from + "," + hours + ")",
                    () -> room.loan(reader, book, from, hours), () -> model.loan(reader, book, from, hours));
        } else {
            int by = below(6) == 0 ? of(104) - 52 : below(30) - 15;
            compare("drop(" + book + "," + from + "," + by + ")", () -> room.drop(book, from, by),
                    () -> model.drop(book, from, by));
        }
        hour = Math.max(hour, model.count(6));
    }

    /** Most looks are such as a reader could have caused, or the spoilt ones would leave no ways at all. */
    private void lookAt(int book) {
        int reader = below(Math.max(1, model.count(1)));
        boolean known = book >= 0 && book < model.count(0) && reader < model.count(1) && below(4) > 0;
        int slip = known ? model.slip(reader, book) : 0;
        int at = below(20) == 0 ? of(8761) : known && below(3) > 0 ? model.book(book, 4) + below(3) : below(hour + 5);
        int colour = known ? model.reader(reader, 1) : of(4);
        int page = below(30) == 0 ? of(403) : slip > 0 ? Math.max(1, slip - below(3)) : 1 + below(3) / 2;
        compare("look(" + book + "," + at + "," + colour + "," + page + ")",
                () -> room.look(book, at, colour, page), () -> model.look(book, at, colour, page));
    }

    private void imageOrRoom() {
        int kind = below(12);
        if (kind < 5) {
            log.append("image ");
            room.image();
            model.image();
        } else if (kind < 10) {
            compare("restore", () -> bit(room.restore()), () -> bit(model.restore()));
            hour = model.count(6);
        } else if (kind == 10) {
            tellRoom();
        } else {
            int n = of(60);
            compare("room(" + n + ")", () -> room.room(n), () -> model.room(n));
            hour = model.count(6);
        }
    }

    private void askOfReading(int reader, int book, int other) {
        int what = of(5);
        int loan = of(model.count(2));
        int page = of(40) + 1;
        switch (below(7)) {
            case 0 -> compare("slip(" + reader + "," + book + ")", () -> room.slip(reader, book),
                    () -> model.slip(reader, book));
            case 1 -> compare("read(" + reader + "," + book + "," + what + ")", () -> room.read(reader, book, what),
                    () -> model.read(reader, book, what));
            case 2 -> compare("has(" + reader + "," + book + "," + page + ")",
                    () -> bit(room.has(reader, book, page)), () -> bit(model.has(reader, book, page)));
            case 3 -> compare("ahead(" + reader + "," + other + "," + book + ")",
                    () -> room.ahead(reader, other, book), () -> model.ahead(reader, other, book));
            case 4 -> compare("book(" + book + "," + what + ")", () -> room.book(book, what),
                    () -> model.book(book, what));
            case 5 -> compare("reader(" + reader + "," + what + ")", () -> room.reader(reader, what),
                    () -> model.reader(reader, what));
            default -> compare("lent(" + loan + "," + what + ")", () -> room.lent(loan, what + 1),
                    () -> model.lent(loan, what + 1));
        }
    }

    private void askOfLooks(int reader, int book) {
        int what = of(2);
        int look = of(model.count(3));
        switch (below(4)) {
            case 0 -> compare("ways(" + book + ")", () -> room.ways(book), () -> model.ways(book));
            case 1 -> compare("whose(" + look + "," + what + ")", () -> room.whose(look, what),
                    () -> model.whose(look, what));
            case 2 -> compare("ends(" + reader + "," + book + "," + what + ")", () -> room.ends(reader, book, what),
                    () -> model.ends(reader, book, what));
            default -> compare("moved(" + book + ")", () -> room.moved(book), () -> model.moved(book));
        }
    }

    private void askOfTheRest() {
        int what = of(12);
        int tales = of(64);
        int turn = of(7);
        switch (below(4)) {
            case 0 -> compare("count(" + what + ")", () -> room.count(what), () -> model.count(what));
            case 1 -> compare("waiting", () -> room.waiting(), () -> model.waiting());
            case 2 -> compare("turn(" + turn + ")", () -> room.turn(turn), () -> model.turn(turn));
            default -> compare("settle(" + tales + "," + what % 3 + ")", () -> room.settle(tales, what % 3),
                    () -> model.settle(tales, what % 3));
        }
    }
}
