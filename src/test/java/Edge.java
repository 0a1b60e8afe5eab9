import java.util.ArrayList;
import java.util.Arrays;
import java.util.List;
import java.util.Map;
import java.util.function.IntFunction;

/**
 * Boundary cases, each a row of calls on a new object with the answers that are due:
 * "loan 0 0 5 1 = 7", "restore = false", "book 1 0 = no element", "room -1 = bad argument".
 * "= refused" is NONE and one more of that call's STATUS; "= full" is NONE of a feed;
 * "tell book 0; = fault 2 at 5" is a text with a FAULT.
 * Whatever is refused, or only asks, must leave all that can be seen as it was.
 */
final class Edge {
    private static final List<String> CHANGES = List.of("tell", "room", "feed", "blanks", "loan", "drop", "look",
            "wish", "waiting", "tale", "image", "restore");

    /** How many calls an object must have left for more to be seen of it than its last answer. */
    private static final int CALLS_TO_SEE = 20;

    private final String test;
    private int edges = 0;
    private int checks = 0;
    private int wrong = 0;
    private String edge = "";

    Edge(String test) {
        this.test = test;
    }

    /** rows are Strings, or arrays of them. */
    void holds(String name, Object... rows) {
        edges++;
        edge = name;
        Told told = new Told();
        List<String> run = new ArrayList<>();
        for (String row : flat(rows)) {
            int sign = row.lastIndexOf(" = ");
            String call = row.substring(0, sign);
            String want = row.substring(sign + " = ".length());
            due(call, told.answer(call), answerOf(want));
            if (leavesAll(call, want) && told.calls() <= Told.MOST_CALLS - CALLS_TO_SEE) {
                stays(run, call, want);
            }
            run.add(call);
        }
    }

    void end() {
        System.out.println(test + ": " + edges + " edges, " + checks + " checks, " + wrong + " wrong");
        if (wrong != 0) {
            System.exit(1);
        }
    }

    /** Rows for 0 to n - 1. */
    static String[] each(int n, IntFunction<String> row) {
        String[] rows = new String[n];
        for (int i = 0; i < n; i++) {
            rows[i] = row.apply(i);
        }
        return rows;
    }

    private static List<String> flat(Object... rows) {
        List<String> all = new ArrayList<>();
        for (Object row : rows) {
            if (row instanceof String[] some) {
                all.addAll(Arrays.asList(some));
            } else {
                all.add((String) row);
            }
        }
        return all;
    }

    private void due(String call, String got, String want) {
        checks++;
        if (!got.equals(want)) {
            wrong++;
            System.out.println(test + ", " + edge + ": " + call + " answered " + got + ", due is " + want);
        }
    }

    private static String answerOf(String want) {
        return want.equals("refused") || want.equals("full") ? "-1" : want;
    }

    private static String nameOf(String call) {
        return call.split(" ")[0];
    }

    private static boolean leavesAll(String call, String want) {
        return want.equals("refused") || want.equals("full") || want.equals("false") || want.startsWith("fault ")
                || want.equals(Told.NO_ELEMENT) || want.equals(Told.BAD_ARGUMENT) || !CHANGES.contains(nameOf(call));
    }

    /** The count of refused calls that a row adds one to; none for calls that only ask or throw. */
    private static String status(String call, String want) {
        if (want.startsWith("fault ")) {
            return "count 7";
        }
        return !want.equals("refused") ? "" : switch (nameOf(call)) {
            case "loan" -> "count 8";
            case "drop" -> "count 9";
            case "look" -> "count 10";
            case "wish" -> "count 11";
            default -> throw new AssertionError(call + " has no STATUS");
        };
    }

    private void stays(List<String> run, String call, String want) {
        List<String> longer = new ArrayList<>(run);
        longer.add(call);
        Map<String, String> before = new Sight(run).answers();
        Map<String, String> after = new Sight(longer).answers();
        String status = status(call, want);
        if (!status.isEmpty()) {
            due(status + " behind " + call, after.get(status), "" + (Integer.parseInt(before.get(status)) + 1));
            forget(before, after, status);
            if (before.get("restored: restore").equals("false")) {
                forget(before, after, "restored: " + status);
            }
        }
        if (want.startsWith("fault ")) {
            forget(before, after, "fault");
            forget(before, after, "restored: fault");
        }
        for (Map.Entry<String, String> answer : before.entrySet()) {
            due(answer.getKey() + " behind " + call, after.get(answer.getKey()), answer.getValue());
        }
        due("what can be asked behind " + call, "" + after.keySet().equals(before.keySet()), "true");
    }

    /** What a row may change is looked at by itself. */
    private static void forget(Map<String, String> before, Map<String, String> after, String question) {
        before.remove(question);
        after.remove(question);
    }
}
