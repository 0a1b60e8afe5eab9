import java.util.ArrayList;
import java.util.HashMap;
import java.util.HashSet;
import java.util.List;
import java.util.Map;
import java.util.NoSuchElementException;
import java.util.Set;
import java.util.TreeMap;
import java.util.TreeSet;

/**
 * The document once more, by the plainest means (all ways, all orders, all strategies tried),
 * for ModelTest to hold the class against.
 */
final class Model {
    private static final class Fault extends RuntimeException {
        private static final long serialVersionUID = 1;

        final int kind;
        final int place;

        Fault(int kind, int place) {
            super(null, null, false, false);
            this.kind = kind;
            this.place = place;
        }
    }

    private record Token(char kind, String text, int at) {
    }

    /** A law, given the values of a page. */
    private interface Law {
        int of(Map<String, Integer> values);
    }

    private record Book(int pages, int part) {
    }

    private record Reader(int pace, int colour, int back, boolean ends, Law stops) {
    }

    private record Loan(int reader, int book, int from, int hours, int begin, int pages) {
    }

    private record Look(int book, int hour, int colour, int page) {
    }

    private record Wish(int hours, int ready) {
    }

    /** What an image keeps. */
    private static final class State {
        List<Loan> loans = new ArrayList<>();
        Map<List<Integer>, Integer> slips = new HashMap<>();
        Map<List<Integer>, Integer> laid = new HashMap<>();
        Map<List<Integer>, Map<Integer, Integer>> read = new HashMap<>();
        int begin = 0;
        List<Look> looks = new ArrayList<>();
        List<Wish> wishes = new ArrayList<>();
        Map<List<Integer>, Integer> tales = new HashMap<>();
        int[] status = new int[5];

        State copy() {
            State c = new State();
            c.loans.addAll(loans);
            c.slips.putAll(slips);
            c.laid.putAll(laid);
            read.forEach((k, v) -> c.read.put(k, new TreeMap<>(v)));
            c.begin = begin;
            c.looks.addAll(looks);
            c.wishes.addAll(wishes);
            c.tales.putAll(tales);
            c.status = status.clone();
            return c;
        }
    }

    private final List<Integer> tape = new ArrayList<>();
    private int place = -1;
    private List<Book> books = new ArrayList<>();
    private List<Reader> readers = new ArrayList<>();
    private State now = new State();
    private State kept = null;
    private List<Integer> order = new ArrayList<>();

    // ---- texts

    private List<Token> tokens;
    private int at;
    private List<Book> newBooks;
    private List<Reader> newReaders;

    private static List<Token> tokenize(String text) {
        List<Token> all = new ArrayList<>();
        int i = 0;
        while (i < text.length()) {
            char c = text.charAt(i);
            int j = i + 1;
            if (c == 32 || c == 10) {
                i++;
                continue;
            }
            char kind = c;
            if (c >= 'a' && c <= 'z') {
                kind = 'w';
                while (j < text.length() && text.charAt(j) >= 'a' && text.charAt(j) <= 'z') {
                    j++;
                }
            } else if (c >= '0' && c <= '9') {
                kind = 'n';
                while (j < text.length() && text.charAt(j) >= '0' && text.charAt(j) <= '9') {
                    j++;
                }
            } else if (";()+-*/<=".indexOf(c) < 0) {
                kind = '?';
            }
            all.add(new Token(kind, text.substring(i, j), i));
            i = j;
        }
        all.add(new Token('$', "", text.length()));
        return all;
    }

    private Token token() {
        return tokens.get(at);
    }

    private boolean is(String text) {
        return token().text.equals(text);
    }

    private boolean pass(String text) {
        if (is(text)) {
            at++;
            return true;
        }
        return false;
    }

    private void must(String text) {
        if (!pass(text)) {
            throw new Fault(1, token().at);
        }
    }

    private int number(int least, int most) {
        Token t = token();
        if (t.kind != 'n') {
            throw new Fault(1, t.at);
        }
        if (t.text.length() > 4 || Integer.parseInt(t.text) < least || Integer.parseInt(t.text) > most) {
            throw new Fault(2, t.at);
        }
        at++;
        return Integer.parseInt(t.text);
    }

    private void parse(String text) {
        tokens = tokenize(text);
        at = 0;
        newBooks = new ArrayList<>();
        newReaders = new ArrayList<>();
        while (token().kind != '$') {
            int first = token().at;
            if (pass("book")) {
                if (newBooks.size() == 10) {
                    throw new Fault(2, first);
                }
                int pages = number(1, 400);
                newBooks.add(new Book(pages, pass("parts") ? number(1, 400) : 0));
            } else if (pass("reader")) {
                if (newReaders.size() == 8) {
                    throw new Fault(2, first);
                }
                int pace = number(1, 60);
                int colour = pass("colour") ? number(0, 3) : 0;
                int back = pass("back") ? number(0, 20) : 0;
                boolean ends = pass("ends");
                Law stops = pass("stops") ? or(0) : v -> 0;
                newReaders.add(new Reader(pace, colour, back, ends, stops));
            } else {
                throw new Fault(1, first);
            }
            must(";");
        }
    }

    private static int bit(boolean holds) {
        return holds ? 1 : 0;
    }

    private Law or(int within) {
        Token t = token();
        if (within == 6 && (t.kind == 'n' || t.kind == 'w' || t.kind == '(')) {
            throw new Fault(2, t.at);
        }
        Law left = and(within);
        while (pass("or")) {
            Law l = left;
            Law r = and(within);
            left = v -> bit(l.of(v) != 0 | r.of(v) != 0);
        }
        return left;
    }

    private Law and(int within) {
        Law left = not(within, 0);
        while (pass("and")) {
            Law l = left;
            Law r = not(within, 0);
            left = v -> bit(l.of(v) != 0 & r.of(v) != 0);
        }
        return left;
    }

    private Law not(int within, int beside) {
        int first = token().at;
        if (pass("not")) {
            if (beside == 6) {
                throw new Fault(2, first);
            }
            Law law = not(within, beside + 1);
            return v -> bit(law.of(v) == 0);
        }
        Law l = sum(within);
        if (pass("<")) {
            Law r = sum(within);
            return v -> bit(l.of(v) < r.of(v));
        }
        if (pass("=")) {
            Law r = sum(within);
            return v -> bit(l.of(v) == r.of(v));
        }
        return l;
    }

    private Law sum(int within) {
        Law left = product(within);
        while (is("+") || is("-")) {
            boolean plus = is("+");
            at++;
            Law l = left;
            Law r = product(within);
            left = plus ? v -> l.of(v) + r.of(v) : v -> l.of(v) - r.of(v);
        }
        return left;
    }

    private Law product(int within) {
        Law left = part(within);
        while (is("*") || is("/")) {
            boolean times = is("*");
            at++;
            Law l = left;
            Law r = part(within);
            left = times ? v -> l.of(v) * r.of(v) : v -> r.of(v) == 0 ? 0 : (int) ((long) l.of(v) / r.of(v));
        }
        return left;
    }

    private Law part(int within) {
        Token t = token();
        if (t.kind == 'n') {
            int n = number(0, 9999);
            return v -> n;
        }
        if (pass("(")) {
            Law law = or(within + 1);
            must(")");
            return law;
        }
        if (t.kind != 'w') {
            throw new Fault(1, t.at);
        }
        if (!List.of("page", "left", "into", "read", "hour", "day", "book").contains(t.text)) {
            throw new Fault(3, t.at);
        }
        at++;
        return v -> v.get(t.text);
    }

    // ---- the face

    int feed(int a, int b, int c, int d, int e) {
        if (tape.size() > 680) {
            return -1;
        }
        for (int n : new int[] {a, b, c, d, e}) {
            tape.addAll(List.of(n >>> 24, n >>> 16 & 255, n >>> 8 & 255, n & 255));
        }
        return tape.size();
    }

    int room(int n) {
        if (n < 0 || n > tape.size()) {
            throw new IllegalArgumentException();
        }
        StringBuilder text = new StringBuilder();
        for (int i = 0; i < n; i++) {
            text.append((char) (int) tape.get(i));
        }
        tape.clear();
        place = -1;
        try {
            parse(text.toString());
        } catch (Fault f) {
            place = f.place;
            now.status[0]++;
            return f.kind;
        }
        books = newBooks;
        readers = newReaders;
        int[] status = now.status;
        now = new State();
        now.status = status;
        kept = null;
        order = new ArrayList<>();
        return 0;
    }

    int fault() {
        return place;
    }

    private static <T> T pick(List<T> all, int i) {
        if (i < 0 || i >= all.size()) {
            throw new NoSuchElementException();
        }
        return all.get(i);
    }

    private static int pick(int what, int... all) {
        if (what < 0 || what >= all.length) {
            throw new NoSuchElementException();
        }
        return all[what];
    }

    int count(int what) {
        int[] s = now.status;
        return pick(what, books.size(), readers.size(), now.loans.size(), now.looks.size(), now.wishes.size(),
                tape.size(), now.begin, s[0], s[1], s[2], s[3], s[4]);
    }

    private int until(int reader, int book) {
        int until = 0;
        for (Loan l : now.loans) {
            if (l.reader == reader || l.book == book) {
                until = Math.max(until, l.from + l.hours);
            }
        }
        return until;
    }

    private Map<Integer, Integer> read(int reader, int book) {
        return now.read.computeIfAbsent(List.of(reader, book), k -> new TreeMap<>());
    }

    private int where(int reader, int book) {
        return now.slips.getOrDefault(List.of(reader, book), 0);
    }

    int book(int book, int what) {
        Book b = pick(books, book);
        Set<Integer> opened = new TreeSet<>();
        int slips = 0;
        for (int r = 0; r < readers.size(); r++) {
            opened.addAll(read(r, book).keySet());
            slips += where(r, book) > 0 ? 1 : 0;
        }
        return pick(what, b.pages, b.part, b.pages - opened.size(), slips, until(-1, book));
    }

    int reader(int reader, int what) {
        Reader r = pick(readers, reader);
        return pick(what, r.pace, r.colour, r.back, bit(r.ends), until(reader, -1));
    }

    int loan(int reader, int book, int from, int hours) {
        Reader r = pick(readers, reader);
        Book b = pick(books, book);
        if (now.loans.size() >= 200 || hours < 1 || hours > 24 || from < now.begin
                || (long) from + hours > 8760 || from < until(reader, book)) {
            now.status[1]++;
            return -1;
        }
        List<Integer> key = List.of(reader, book);
        int begin = 1;
        if (!now.laid.containsKey(key)) {
            if (r.ends) {
                read(reader, book).putIfAbsent(b.pages, from);
            }
        } else if (where(reader, book) > 0) {
            begin = Math.max(1, where(reader, book) - r.back);
        } else if (b.part > 0) {
            while (begin + b.part <= Math.min(b.pages, now.laid.get(key))) {
                begin += b.part;
            }
        }
        int next = begin;
        for (int h = from; h < from + hours; h++) {
            next = hour(reader, book, begin, next, h);
        }
        now.slips.put(key, next);
        now.laid.put(key, next);
        now.begin = from;
        now.loans.add(new Loan(reader, book, from, hours, begin, next - begin));
        return next - begin;
    }

    private int hour(int reader, int book, int begin, int first, int hour) {
        Reader r = readers.get(reader);
        Book b = books.get(book);
        int page = first;
        for (int i = 0; i < r.pace; i++) {
            if (page > b.pages) {
                break;
            }
            read(reader, book).putIfAbsent(page, hour);
            int into = page;
            while (b.part > 0 && into > b.part) {
                into -= b.part;
            }
            Map<String, Integer> v = Map.of("page", page, "left", b.pages - page, "into", into,
                    "read", page - begin + 1, "hour", hour % 24, "day", hour / 24, "book", book);
            page++;
            if (r.stops.of(v) != 0) {
                break;
            }
        }
        return page;
    }

    int lent(int loan, int what) {
        Loan l = pick(now.loans, loan);
        return pick(what, l.reader, l.book, l.from, l.hours, l.begin, l.pages);
    }

    int drop(int book, int hour, int by) {
        Book b = pick(books, book);
        if (hour < now.begin || hour > 8759 || by < -50 || by > 50 || hour < until(-1, book)) {
            now.status[2]++;
            return -1;
        }
        now.begin = hour;
        int lost = 0;
        for (int r = 0; r < readers.size(); r++) {
            int page = where(r, book);
            if (page > 0) {
                boolean lies = by != 0 && page + by >= 1 && page + by <= b.pages;
                now.slips.put(List.of(r, book), lies ? page + by : -1);
                lost += lies ? 0 : 1;
            }
        }
        return lost;
    }

    int slip(int reader, int book) {
        pick(readers, reader);
        pick(books, book);
        return where(reader, book);
    }

    int read(int reader, int book, int what) {
        pick(readers, reader);
        Book b = pick(books, book);
        Map<Integer, Integer> pages = read(reader, book);
        int row = 0;
        while (pages.containsKey(row + 1)) {
            row++;
        }
        int all = pages.size() < b.pages ? -1 : pages.values().stream().max(Integer::compare).get();
        return pick(what, pages.size(), row,
                bit(pages.containsKey(b.pages) && 10 * pages.size() < b.pages), all);
    }

    boolean has(int reader, int book, int page) {
        pick(readers, reader);
        if (page < 1 || page > pick(books, book).pages) {
            throw new NoSuchElementException();
        }
        return read(reader, book).containsKey(page);
    }

    int ahead(int reader, int other, int book) {
        int one = slip(reader, book);
        int two = slip(other, book);
        if (reader == other || one <= 0 || two <= 0) {
            throw new NoSuchElementException();
        }
        return one - two;
    }

    // ---- looks

    private List<Integer> looksOf(int book) {
        List<Integer> all = new ArrayList<>();
        for (int i = 0; i < now.looks.size(); i++) {
            if (now.looks.get(i).book == book) {
                all.add(i);
            }
        }
        return all;
    }

    int look(int book, int hour, int colour, int page) {
        pick(books, book);
        if (now.looks.size() >= 24 || looksOf(book).size() >= 6 || hour < 0 || hour > 8759
                || colour < 0 || colour > 3 || page < 1 || page > 401) {
            now.status[3]++;
            return -1;
        }
        now.looks.add(new Look(book, hour, colour, page));
        return now.looks.size() - 1;
    }

    /** HOURS that a reader had a book, from one hour on, ahead of another. */
    private int lentBetween(int reader, int book, int first, int second) {
        int hours = 0;
        for (Loan l : now.loans) {
            for (int h = l.from; h < l.from + l.hours; h++) {
                hours += bit(l.reader == reader && l.book == book && h >= first && h < second);
            }
        }
        return hours;
    }

    private int begunBetween(int reader, int book, int first, int second) {
        int loans = 0;
        for (Loan l : now.loans) {
            loans += bit(l.reader == reader && l.book == book && l.from >= first && l.from < second);
        }
        return loans;
    }

    private boolean agrees(int reader, List<Look> own) {
        own.sort((a, b) -> Integer.compare(a.hour, b.hour));
        Reader r = readers.get(reader);
        for (int i = 0; i < own.size(); i++) {
            Look l = own.get(i);
            if (l.colour != r.colour) {
                return false;
            }
            if (i == 0) {
                if (l.page - 1 > r.pace * lentBetween(reader, l.book, 0, l.hour)) {
                    return false;
                }
                continue;
            }
            Look p = own.get(i - 1);
            if (p.hour == l.hour
                    || l.page < p.page - r.back * begunBetween(reader, l.book, p.hour, l.hour)
                    || l.page > p.page + r.pace * lentBetween(reader, l.book, p.hour, l.hour)) {
                return false;
            }
        }
        return true;
    }

    /** All WAYS, each as a row of readers, for some looks. */
    private List<int[]> allWays(List<Integer> looks) {
        List<int[]> all = new ArrayList<>();
        Map<List<Integer>, Boolean> known = new HashMap<>();
        give(looks, new int[looks.size()], 0, known, all);
        return all;
    }

    private void give(List<Integer> looks, int[] row, int given, Map<List<Integer>, Boolean> known, List<int[]> all) {
        if (given < row.length) {
            for (int r = 0; r < readers.size(); r++) {
                row[given] = r;
                if (readers.get(r).colour == now.looks.get(looks.get(given)).colour) {
                    give(looks, row, given + 1, known, all);
                }
            }
            return;
        }
        for (int r = 0; r < readers.size(); r++) {
            List<Integer> key = new ArrayList<>(List.of(r));
            List<Look> own = new ArrayList<>();
            for (int i = 0; i < row.length; i++) {
                if (row[i] == r) {
                    key.add(i);
                    own.add(now.looks.get(looks.get(i)));
                }
            }
            int reader = r;
            if (!known.computeIfAbsent(key, k -> agrees(reader, own))) {
                return;
            }
        }
        all.add(row.clone());
    }

    int ways(int book) {
        pick(books, book);
        return allWays(looksOf(book)).size();
    }

    int whose(int look, int what) {
        List<Integer> looks = looksOf(pick(now.looks, look).book);
        Set<Integer> may = new TreeSet<>();
        for (int[] way : allWays(looks)) {
            may.add(way[looks.indexOf(look)]);
        }
        int bits = 0;
        for (int r : may) {
            bits += 1 << r;
        }
        return pick(what, bits, may.size() == 1 ? may.iterator().next() : -1);
    }

    int ends(int reader, int book, int what) {
        pick(readers, reader);
        pick(books, book);
        List<Integer> looks = looksOf(book);
        int least = -1;
        int most = -1;
        for (int[] way : allWays(looks)) {
            int page = 1;
            int last = -1;
            for (int i = 0; i < way.length; i++) {
                Look l = now.looks.get(looks.get(i));
                if (way[i] == reader && l.hour > last) {
                    last = l.hour;
                    page = l.page;
                }
            }
            least = least < 0 ? page : Math.min(least, page);
            most = Math.max(most, page);
        }
        return pick(what, least, most);
    }

    int moved(int book) {
        pick(books, book);
        List<Integer> looks = looksOf(book);
        if (!allWays(looks).isEmpty()) {
            return 0;
        }
        int bits = 0;
        for (int look : looks) {
            List<Integer> rest = new ArrayList<>(looks);
            rest.remove(Integer.valueOf(look));
            bits |= allWays(rest).isEmpty() ? 0 : 1 << look;
        }
        return bits;
    }

    // ---- wishes and tales

    int wish(int reader, int hours, int ready) {
        pick(readers, reader);
        if (now.wishes.size() >= 7 || hours < 1 || hours > 99 || ready < 0 || ready > 999) {
            now.status[4]++;
            return -1;
        }
        now.wishes.add(new Wish(hours, ready));
        return now.wishes.size();
    }

    int waiting() {
        List<List<Integer>> rows = new ArrayList<>();
        permute(new ArrayList<>(), rows);
        int least = Integer.MAX_VALUE;
        for (List<Integer> row : rows) {
            int through = 0;
            int waited = 0;
            for (int w : row) {
                Wish wish = now.wishes.get(w);
                int begin = Math.max(through, wish.ready);
                waited += begin - wish.ready;
                through = begin + wish.hours;
            }
            if (waited < least) {
                least = waited;
                order = row;
            }
        }
        return least;
    }

    private void permute(List<Integer> row, List<List<Integer>> rows) {
        if (row.size() == now.wishes.size()) {
            rows.add(new ArrayList<>(row));
        }
        for (int w = 0; w < now.wishes.size(); w++) {
            if (!row.contains(w)) {
                row.add(w);
                permute(row, rows);
                row.remove(row.size() - 1);
            }
        }
    }

    int turn(int i) {
        return pick(order, i);
    }

    boolean tale(int tale, int book, int page) {
        pick(books, book);
        if (tale < 0 || tale > 5 || page < 0 || page > 401) {
            return false;
        }
        now.tales.put(List.of(tale, book), page);
        return true;
    }

    /** Fewest looks and the first book, by all strategies; {-1, -1}, if there is none. */
    private int[] strategy(Set<Integer> tales, Set<Integer> seen) {
        if (tales.size() < 2) {
            return new int[] {0, -1};
        }
        int[] best = {-1, -1};
        for (int b = 0; b < books.size(); b++) {
            if (seen.contains(b)) {
                continue;
            }
            Map<Integer, Set<Integer>> groups = new TreeMap<>();
            for (int t : tales) {
                groups.computeIfAbsent(now.tales.getOrDefault(List.of(t, b), 0), k -> new TreeSet<>()).add(t);
            }
            Set<Integer> then = new HashSet<>(seen);
            then.add(b);
            int worst = 0;
            for (Set<Integer> group : groups.values()) {
                int looks = strategy(group, then)[0];
                worst = looks < 0 || worst < 0 ? -1 : Math.max(worst, looks);
            }
            if (worst >= 0 && (best[0] < 0 || worst + 1 < best[0])) {
                best = new int[] {worst + 1, b};
            }
        }
        return best;
    }

    int settle(int tales, int what) {
        if (what < 0 || what > 1) {
            throw new NoSuchElementException();
        }
        if (tales < 0 || tales > 63) {
            throw new IllegalArgumentException();
        }
        Set<Integer> some = new TreeSet<>();
        for (int t = 0; t < 6; t++) {
            if ((tales & 1 << t) != 0) {
                some.add(t);
            }
        }
        return strategy(some, new HashSet<>())[what];
    }

    void image() {
        kept = now.copy();
    }

    boolean restore() {
        if (kept == null) {
            return false;
        }
        now = kept.copy();
        return true;
    }
}
