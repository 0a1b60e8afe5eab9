import java.util.ArrayList;
import java.util.List;
import java.util.Map;
import java.util.TreeMap;

/**
 * All that can be seen of an object behind a run of calls. The run is called again on new objects,
 * as many as it takes to ask everything within the calls that one object has.
 */
final class Sight {
    private static final int PAGES_ASKED = 12;

    private final List<String> run;
    private final Map<String, String> answers = new TreeMap<>();
    private final int books;
    private final int readers;
    private final int loans;
    private final int looks;
    private final int tape;
    private final int begin;

    Sight(List<String> run) {
        this.run = run;
        Told told = again();
        books = number(told, "count 0");
        readers = number(told, "count 1");
        loans = number(told, "count 2");
        looks = number(told, "count 3");
        tape = number(told, "count 5");
        begin = number(told, "count 6");
        List<String> questions = questions();
        ask("", List.of(), questions);
        ask("restored: ", List.of("restore"), questions);
        act("by waiting: ", "waiting", "turn 0", "turn 1", "turn 2", "turn 3", "turn 4", "turn 5", "turn 6");
        act("by the tape: ", "room " + tape, "fault", "count 0", "count 1", "book 0 0", "reader 0 0");
        goOn();
    }

    Map<String, String> answers() {
        return answers;
    }

    private Told again() {
        Told told = new Told();
        for (String call : run) {
            told.answer(call);
        }
        return told;
    }

    private static int number(Told told, String call) {
        return Integer.parseInt(told.answer(call));
    }

    /** Questions change nothing, so that a new object is only made where one has no calls left. */
    private void ask(String name, List<String> ahead, List<String> questions) {
        Told told = null;
        for (String question : questions) {
            if (told == null || told.calls() >= Told.MOST_CALLS) {
                told = again();
                for (String call : ahead) {
                    answers.put(name + call, told.answer(call));
                }
            }
            answers.put(name + question, told.answer(question));
        }
    }

    /** Calls that change something, on an object of their own. */
    private void act(String name, String... calls) {
        Told told = again();
        if (told.calls() + calls.length <= Told.MOST_CALLS) {
            for (String call : calls) {
                answers.put(name + call, told.answer(call));
            }
        }
    }

    private List<String> questions() {
        List<String> all = new ArrayList<>(List.of("fault"));
        for (int what = 0; what <= 11; what++) {
            all.add("count " + what);
        }
        for (int i = 0; i < 7; i++) {
            all.add("turn " + i);
        }
        for (int tales = 0; tales < 64; tales++) {
            all.add("settle " + tales + " 0");
            all.add("settle " + tales + " 1");
        }
        for (int book = 0; book < books; book++) {
            askOfBook(all, book);
        }
        for (int reader = 0; reader < readers; reader++) {
            askOfReader(all, reader);
        }
        for (int loan = 0; loan < loans; loan++) {
            for (int what = 0; what < 6; what++) {
                all.add("lent " + loan + " " + what);
            }
        }
        for (int look = 0; look < looks; look++) {
            all.add("whose " + look + " 0");
            all.add("whose " + look + " 1");
        }
        return all;
    }

    private static void askOfBook(List<String> all, int book) {
        for (int what = 0; what < 5; what++) {
            all.add("book " + book + " " + what);
        }
        all.add("ways " + book);
        all.add("moved " + book);
    }

    private void askOfReader(List<String> all, int reader) {
        for (int what = 0; what < 5; what++) {
            all.add("reader " + reader + " " + what);
        }
        for (int book = 0; book < books; book++) {
            String both = reader + " " + book;
            all.add("slip " + both);
            for (int what = 0; what < 4; what++) {
                all.add("read " + both + " " + what);
            }
            for (int page = 1; page <= PAGES_ASKED; page++) {
                all.add("has " + both + " " + page);
            }
            all.add("ends " + both + " 0");
            all.add("ends " + both + " 1");
            for (int other = 0; other < reader; other++) {
                all.add("ahead " + reader + " " + other + " " + book);
            }
        }
    }

    /** How each would go on, which tells of laws and of where lost slips were laid. */
    private void goOn() {
        for (int reader = 0; reader < readers; reader++) {
            for (int book = 0; book < books; book++) {
                goOn(reader, book);
            }
        }
    }

    private void goOn(int reader, int book) {
        Told told = again();
        if (told.calls() + 2 > Told.MOST_CALLS) {
            return;
        }
        int hour = Math.max(begin, Math.max(number(told, "book " + book + " 4"),
                number(told, "reader " + reader + " 4")));
        String loan = "loan " + reader + " " + book + " " + hour + " 1";
        String begun = "lent " + loans + " 4";
        act("by " + loan + ": ", loan, begun);
        act("dropped, by " + loan + ": ", "drop " + book + " " + hour + " 0", loan, begun);
    }
}
