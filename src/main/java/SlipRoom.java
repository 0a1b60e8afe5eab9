import java.util.Arrays;
import java.util.NoSuchElementException;

/**
 * A reading room in which people read books by turns, with slips of paper for marks.
 * Words in capitals are those of the document, whose promises the public methods keep.
 */
public final class SlipRoom {
    /** There is none. */
    public static final int NONE = -1;

    private static final int MOST_BYTES = 700;
    private static final int FED_BYTES = 20;
    private static final int MOST_BOOKS = 10;
    private static final int MOST_READERS = 8;
    private static final int MOST_PAGES = 400;
    private static final int MOST_PACE = 60;
    private static final int MOST_COLOUR = 3;
    private static final int MOST_BACK = 20;
    private static final int CELLS = MOST_READERS * MOST_BOOKS;

    private static final int DAY = 24;
    private static final int LAST_HOUR = 8759;
    private static final int MOST_LOANS = 200;
    private static final int MOST_LOAN_HOURS = 24;
    private static final int LOAN_FIELDS = 6;
    private static final int MOST_FALL = 50;

    private static final int MOST_LOOKS = 24;
    private static final int MOST_LOOKS_OF_BOOK = 6;
    private static final int LOOK_FIELDS = 4;
    private static final int LOOK_SETS = 1 << MOST_LOOKS_OF_BOOK;
    /** A slip may lie one behind the last page of the thickest BOOK. */
    private static final int LAST_SLIP = MOST_PAGES + 1;

    private static final int MOST_WISHES = 7;
    private static final int MOST_WISH_HOURS = 99;
    private static final int LAST_READY = 999;
    /** Seven that wait for six others and the latest READY stay far below. */
    private static final int ABOVE_ALL_WAITING = 1000000;
    private static final int TALES = 6;
    private static final int TALE_SETS = 1 << TALES;

    private static final int TEXTS_REFUSED = 0;
    private static final int LOANS_REFUSED = 1;
    private static final int DROPS_REFUSED = 2;
    private static final int LOOKS_REFUSED = 3;
    private static final int WISHES_REFUSED = 4;
    private static final int REFUSALS = 5;
    /** count()'s what of the first STATUS. */
    private static final int FIRST_REFUSAL = 7;

    private static final int MISPLACED = 1;
    private static final int TOO_MUCH = 2;
    private static final int NO_VALUE = 3;
    private static final int MOST_DIGITS = 4;
    private static final int GREATEST_NUMBER = 9999;
    private static final int TOO_GREAT = GREATEST_NUMBER + 1;
    private static final int MOST_EXPRS_AROUND = 5;
    private static final int MOST_NOTS = 6;

    /** LEVELS of an EXPR, by how closely their signs bind. */
    private static final int OR_LEVEL = 0;
    private static final int AND_LEVEL = 1;
    private static final int NOT_LEVEL = 2;
    private static final int SUM_LEVEL = 3;
    private static final int PRODUCT_LEVEL = 4;

    /** Kinds of TOKENS; a sign's kind is its own byte, which is greater than these. */
    private static final int END = 0;
    private static final int NUMBER = 1;
    private static final int WORD = 2;
    private static final int NO_TOKEN = 3;

    /**
     * A law's code: a number stands for itself, a VALUE is FIRST_VALUE and its index,
     * an operation is its sign below 0. Those told by words get signs that no text has.
     */
    private static final int FIRST_VALUE = GREATEST_NUMBER + 1;
    private static final int OR = '|';
    private static final int AND = '&';
    private static final int NOT = '!';

    private static final int PAGE = 0;
    private static final int LEFT = 1;
    private static final int INTO = 2;
    private static final int READ = 3;
    private static final int HOUR = 4;
    private static final int DAY_OF_YEAR = 5;
    private static final int BOOK = 6;
    private static final int VALUES = 7;
    /** Five operations may wait in each of six EXPRS for their right side, so 31 would do. */
    private static final int MOST_WAITING_VALUES = 64;

    private final byte[] tape = new byte[MOST_BYTES];
    private int tapeLength = 0;
    private int faultPlace = NONE;
    private Plan plan = new Plan();
    /** Texts are read into it, so that a FAULT leaves the plan as it was. */
    private Plan draft = new Plan();
    private final Parser parser = new Parser(tape, draft);
    private final Ledger now = new Ledger();
    private final Ledger kept = new Ledger();
    private boolean imageKept = false;
    private final Law law = new Law();
    private final Sharing sharing = new Sharing(plan);
    private final Turns turns = new Turns();
    private final Settling settling = new Settling();

    public SlipRoom() {
    }

    public int feed(int a, int b, int c, int d, int e) {
        if (tapeLength + FED_BYTES > MOST_BYTES) {
            return NONE;
        }
        putBytes(a);
        putBytes(b);
        putBytes(c);
        putBytes(d);
        putBytes(e);
        return tapeLength;
    }

    public int room(int n) throws IllegalArgumentException {
        if (n < 0 || n > tapeLength) {
            throw new IllegalArgumentException("the tape has not so many bytes");
        }
        tapeLength = 0;
        int fault = parser.parse(n, draft);
        faultPlace = parser.faultPlace();
        if (fault != 0) {
            now.refusals[TEXTS_REFUSED]++;
            return fault;
        }
        Plan old = plan;
        plan = draft;
        draft = old;
        now.clear();
        turns.clear();
        imageKept = false;
        return 0;
    }

    public int fault() {
        return faultPlace;
    }

    public int count(int what) throws NoSuchElementException {
        switch (what) {
            case 0:
                return plan.books;
            case 1:
                return plan.readers;
            case 2:
                return now.loans;
            case 3:
                return now.looks;
            case 4:
                return now.wishes;
            case 5:
                return tapeLength;
            case 6:
                return now.latestBegin;
            default:
                return refused(what);
        }
    }

    public int book(int book, int what) throws NoSuchElementException {
        requireBook(book);
        switch (what) {
            case 0:
                return plan.pages[book];
            case 1:
                return plan.partPages[book];
            case 2:
                return plan.pages[book] - now.openedPages(book);
            case 3:
                return now.slipsIn(book);
            case 4:
                return now.bookUntil[book];
            default:
                throw new NoSuchElementException("a book has no such number");
        }
    }

    public int reader(int reader, int what) throws NoSuchElementException {
        requireReader(reader);
        switch (what) {
            case 0:
                return plan.pace[reader];
            case 1:
                return plan.colour[reader];
            case 2:
                return plan.back[reader];
            case 3:
                return plan.ends[reader];
            case 4:
                return now.readerUntil[reader];
            default:
                throw new NoSuchElementException("a reader has no such number");
        }
    }

    public int loan(int reader, int book, int from, int hours) throws NoSuchElementException {
        requireReader(reader);
        requireBook(book);
        if (!mayLend(reader, book, from, hours)) {
            now.refusals[LOANS_REFUSED]++;
            return NONE;
        }
        int cell = cellOf(reader, book);
        int begin = beginOf(reader, book);
        if (now.laid[cell] == 0 && plan.ends[reader] == 1) {
            now.mark(cell, plan.pages[book], plan.pages[book], from);
        }
        int next = readLoan(reader, book, begin, from, hours);
        now.slip[cell] = next;
        now.laid[cell] = next;
        now.enterLoan(reader, book, from, hours, begin, next - begin);
        return next - begin;
    }

    public int lent(int loan, int what) throws NoSuchElementException {
        if (loan < 0 || loan >= now.loans || what < 0 || what >= LOAN_FIELDS) {
            throw new NoSuchElementException("there is no such loan or number");
        }
        return now.loanRows[loan * LOAN_FIELDS + what];
    }

    public int drop(int book, int hour, int by) throws NoSuchElementException {
        requireBook(book);
        if (hour < now.latestBegin || hour > LAST_HOUR || hour < now.bookUntil[book]
                || by < -MOST_FALL || by > MOST_FALL) {
            now.refusals[DROPS_REFUSED]++;
            return NONE;
        }
        now.latestBegin = hour;
        return now.moveSlips(book, by, plan.pages[book]);
    }

    public int slip(int reader, int book) throws NoSuchElementException {
        requireReader(reader);
        requireBook(book);
        return now.slip[cellOf(reader, book)];
    }

    public int read(int reader, int book, int what) throws NoSuchElementException {
        requireReader(reader);
        requireBook(book);
        int cell = cellOf(reader, book);
        switch (what) {
            case 0:
                return now.readPages[cell];
            case 1:
                return now.pagesInARow(cell, plan.pages[book]);
            case 2:
                return now.onlyTheEnds(cell, plan.pages[book]) ? 1 : 0;
            case 3:
                return now.allReadAt[cell];
            default:
                throw new NoSuchElementException("reading has no such number");
        }
    }

    public boolean has(int reader, int book, int page) throws NoSuchElementException {
        requireReader(reader);
        requireBook(book);
        if (page < 1 || page > plan.pages[book]) {
            throw new NoSuchElementException("there is no such page");
        }
        return now.isRead(cellOf(reader, book), page);
    }

    public int ahead(int reader, int other, int book) throws NoSuchElementException {
        requireReader(reader);
        requireReader(other);
        requireBook(book);
        int one = now.slip[cellOf(reader, book)];
        int two = now.slip[cellOf(other, book)];
        if (reader == other || one < 1 || two < 1) {
            throw new NoSuchElementException("there are no two slips");
        }
        return one - two;
    }

    public int look(int book, int hour, int colour, int page) throws NoSuchElementException {
        requireBook(book);
        boolean asTold = hour >= 0 && hour <= LAST_HOUR && colour >= 0 && colour <= MOST_COLOUR
                && page >= 1 && page <= LAST_SLIP;
        if (!asTold || now.looks >= MOST_LOOKS || now.looksIn(book) >= MOST_LOOKS_OF_BOOK) {
            now.refusals[LOOKS_REFUSED]++;
            return NONE;
        }
        return now.enterLook(book, hour, colour, page);
    }

    public int ways(int book) throws NoSuchElementException {
        requireBook(book);
        sharing.gather(plan, now, book);
        return sharing.waysInAll();
    }

    public int whose(int look, int what) throws NoSuchElementException {
        if (look < 0 || look >= now.looks || what < 0 || what > 1) {
            throw new NoSuchElementException("there is no such look or number");
        }
        sharing.gather(plan, now, now.lookBook(look));
        int readers = sharing.readersOf(look);
        return what == 0 ? readers : onlyOne(readers);
    }

    public int ends(int reader, int book, int what) throws NoSuchElementException {
        requireReader(reader);
        requireBook(book);
        if (what < 0 || what > 1) {
            throw new NoSuchElementException("an end is the least or the greatest");
        }
        sharing.gather(plan, now, book);
        return sharing.endOf(reader, what == 1);
    }

    public int moved(int book) throws NoSuchElementException {
        requireBook(book);
        sharing.gather(plan, now, book);
        return sharing.movedLooks();
    }

    public int wish(int reader, int hours, int ready) throws NoSuchElementException {
        requireReader(reader);
        if (now.wishes >= MOST_WISHES || hours < 1 || hours > MOST_WISH_HOURS
                || ready < 0 || ready > LAST_READY) {
            now.refusals[WISHES_REFUSED]++;
            return NONE;
        }
        return now.enterWish(hours, ready);
    }

    public int waiting() {
        return turns.arrange(now);
    }

    public int turn(int i) throws NoSuchElementException {
        if (i < 0 || i >= turns.length) {
            throw new NoSuchElementException("the order has no such turn");
        }
        return turns.order[i];
    }

    public boolean tale(int tale, int book, int page) throws NoSuchElementException {
        requireBook(book);
        if (tale < 0 || tale >= TALES || page < 0 || page > LAST_SLIP) {
            return false;
        }
        now.tales[tale * MOST_BOOKS + book] = page;
        return true;
    }

    public int settle(int tales, int what) throws NoSuchElementException, IllegalArgumentException {
        if (what < 0 || what > 1) {
            throw new NoSuchElementException("settling has no such number");
        }
        if (tales < 0 || tales >= TALE_SETS) {
            throw new IllegalArgumentException("there are no such tales");
        }
        settling.weigh(now.tales, plan.books, tales);
        return what == 0 ? settling.fewestLooks[tales] : settling.firstBook[tales];
    }

    public void image() {
        kept.copy(now);
        imageKept = true;
    }

    public boolean restore() {
        if (imageKept) {
            now.copy(kept);
        }
        return imageKept;
    }

    private void putBytes(int number) {
        for (int shift = 24; shift >= 0 && tapeLength < MOST_BYTES; shift -= 8) {
            tape[tapeLength] = (byte) (number >>> shift);
            tapeLength++;
        }
    }

    private void requireBook(int book) {
        if (book < 0 || book >= plan.books) {
            throw new NoSuchElementException("there is no such book");
        }
    }

    private void requireReader(int reader) {
        if (reader < 0 || reader >= plan.readers) {
            throw new NoSuchElementException("there is no such reader");
        }
    }

    private int refused(int what) {
        if (what < FIRST_REFUSAL || what >= FIRST_REFUSAL + REFUSALS) {
            throw new NoSuchElementException("there is no such count");
        }
        return now.refusals[what - FIRST_REFUSAL];
    }

    private static int cellOf(int reader, int book) {
        return reader * MOST_BOOKS + book;
    }

    private static int onlyOne(int readers) {
        int found = NONE;
        for (int reader = 0; reader < MOST_READERS; reader++) {
            if (readers == (1 << reader)) {
                found = reader;
            }
        }
        return found;
    }

    private boolean mayLend(int reader, int book, int from, int hours) {
        if (now.loans >= MOST_LOANS || hours < 1 || hours > MOST_LOAN_HOURS) {
            return false;
        }
        // from is at least 0 by the latest begin, and the sum would wrap for a greater one
        return from >= now.latestBegin && from <= LAST_HOUR && from + hours - 1 <= LAST_HOUR
                && from >= now.readerUntil[reader] && from >= now.bookUntil[book];
    }

    private int beginOf(int reader, int book) {
        int cell = cellOf(reader, book);
        if (now.laid[cell] == 0) {
            return 1;
        }
        if (now.slip[cell] != NONE) {
            return Math.max(1, now.slip[cell] - plan.back[reader]);
        }
        return plan.partBegin(book, Math.min(now.laid[cell], plan.pages[book]));
    }

    /** The page that he would read next. */
    private int readLoan(int reader, int book, int begin, int from, int hours) {
        int next = begin;
        for (int hour = from; hour < from + hours; hour++) {
            next = readHour(reader, book, begin, next, hour);
        }
        return next;
    }

    private int readHour(int reader, int book, int begin, int first, int hour) {
        int cell = cellOf(reader, book);
        int pages = plan.pages[book];
        int page = first;
        boolean stopped = false;
        for (int i = 0; i < plan.pace[reader] && page <= pages && !stopped; i++) {
            now.mark(cell, page, pages, hour);
            stopped = stopsBehind(reader, book, page, page - begin + 1, hour);
            page++;
        }
        return page;
    }

    private boolean stopsBehind(int reader, int book, int page, int readPages, int hour) {
        if (plan.lawFrom[reader] >= plan.lawTo[reader]) {
            return false;
        }
        law.values[PAGE] = page;
        law.values[LEFT] = plan.pages[book] - page;
        law.values[INTO] = page - plan.partBegin(book, page) + 1;
        law.values[READ] = readPages;
        law.values[HOUR] = hour % DAY;
        law.values[DAY_OF_YEAR] = hour / DAY;
        law.values[BOOK] = book;
        return law.holds(plan.code, plan.lawFrom[reader], plan.lawTo[reader]);
    }

    /** The words that a ROOM's text knows; OTHER stands for all else. */
    private enum Word {
        OTHER("", NONE),
        BOOK_WORD("book", BOOK),
        PARTS_WORD("parts", NONE),
        READER_WORD("reader", NONE),
        COLOUR_WORD("colour", NONE),
        BACK_WORD("back", NONE),
        ENDS_WORD("ends", NONE),
        STOPS_WORD("stops", NONE),
        OR_WORD("or", NONE),
        AND_WORD("and", NONE),
        NOT_WORD("not", NONE),
        PAGE_WORD("page", PAGE),
        LEFT_WORD("left", LEFT),
        INTO_WORD("into", INTO),
        READ_WORD("read", READ),
        HOUR_WORD("hour", HOUR),
        DAY_WORD("day", DAY_OF_YEAR);

        private static final Word[] ALL = values();

        private final String letters;
        /** Which VALUE a law means by it; NONE, if it means none. */
        private final int value;

        Word(String letters, int value) {
            this.letters = letters;
            this.value = value;
        }

        static Word find(byte[] text, int from, int to) {
            for (int i = 0; i < ALL.length; i++) {
                String letters = ALL[i].letters;
                int alike = 0;
                while (alike < letters.length() && from + alike < to
                        && text[from + alike] == letters.charAt(alike)) {
                    alike++;
                }
                if (alike == letters.length() && from + alike == to) {
                    return ALL[i];
                }
            }
            return OTHER;
        }
    }

    /** A text's TOKENS, one at a time. */
    private static final class Tokens {
        private final byte[] text;
        private int length = 0;
        private int behind = 0;
        private int kind = END;
        private int start = 0;
        private int number = 0;
        private Word word = Word.OTHER;

        Tokens(byte[] text) {
            this.text = text;
        }

        void begin(int newLength) {
            length = Math.min(newLength, text.length);
            behind = 0;
            advance();
        }

        /** Behind a FAULT nothing more is to be read. */
        void stop() {
            behind = length;
            kind = END;
            word = Word.OTHER;
        }

        void advance() {
            word = Word.OTHER;
            number = 0;
            start = behindBlanks();
            behind = start;
            if (start >= length) {
                kind = END;
            } else if (isLetter(text[start])) {
                kind = WORD;
                passLetters();
                word = Word.find(text, start, behind);
            } else if (isDigit(text[start])) {
                kind = NUMBER;
                passDigits();
            } else {
                kind = isSign(text[start]) ? text[start] : NO_TOKEN;
                behind++;
            }
        }

        /** At which LEVEL the TOKEN joins what stands on its two sides; NONE, if it doesn't. */
        int joins() {
            switch (kind) {
                case '*':
                case '/':
                    return PRODUCT_LEVEL;
                case '+':
                case '-':
                    return SUM_LEVEL;
                case '<':
                case '=':
                    return NOT_LEVEL;
                default:
                    return word == Word.AND_WORD ? AND_LEVEL : word == Word.OR_WORD ? OR_LEVEL : NONE;
            }
        }

        int operation() {
            return word == Word.AND_WORD ? AND : word == Word.OR_WORD ? OR : kind;
        }

        private int behindBlanks() {
            int at = behind;
            while (at < length && (text[at] == ' ' || text[at] == '\n')) {
                at++;
            }
            return at;
        }

        private void passLetters() {
            while (behind < length && isLetter(text[behind])) {
                behind++;
            }
        }

        private void passDigits() {
            while (behind < length && isDigit(text[behind])) {
                // held at what no limit allows, however many digits follow
                number = Math.min(TOO_GREAT, number * 10 + text[behind] - '0');
                behind++;
            }
            if (behind - start > MOST_DIGITS) {
                number = TOO_GREAT;
            }
        }

        private static boolean isLetter(int sign) {
            return sign >= 'a' && sign <= 'z';
        }

        private static boolean isDigit(int sign) {
            return sign >= '0' && sign <= '9';
        }

        private static boolean isSign(int sign) {
            switch (sign) {
                case ';':
                case '(':
                case ')':
                case '+':
                case '-':
                case '*':
                case '/':
                case '<':
                case '=':
                    return true;
                default:
                    return false;
            }
        }
    }

    /**
     * Reads a ROOM from its text. Behind the first FAULT no TOKEN is left, so that
     * every rule below comes to its end by itself and only the first FAULT counts.
     */
    private static final class Parser {
        private final Tokens tokens;
        private Plan plan;
        private int fault = 0;
        private int place = NONE;

        Parser(byte[] text, Plan plan) {
            this.tokens = new Tokens(text);
            this.plan = plan;
        }

        int parse(int length, Plan newPlan) {
            plan = newPlan;
            plan.clear();
            fault = 0;
            place = NONE;
            tokens.begin(length);
            for (int i = 0; i < length && tokens.kind != END; i++) {
                if (tokens.word == Word.BOOK_WORD) {
                    bookClause();
                } else if (tokens.word == Word.READER_WORD) {
                    readerClause();
                } else {
                    fail(MISPLACED);
                }
            }
            return fault;
        }

        int faultPlace() {
            return place;
        }

        private void fail(int newFault) {
            if (fault == 0) {
                fault = newFault;
                place = tokens.start;
            }
            tokens.stop();
        }

        private void bookClause() {
            int book = plan.books;
            if (book >= MOST_BOOKS) {
                fail(TOO_MUCH);
                return;
            }
            plan.books++;
            tokens.advance();
            plan.pages[book] = takeNumber(1, MOST_PAGES);
            plan.partPages[book] = passWord(Word.PARTS_WORD) ? takeNumber(1, MOST_PAGES) : 0;
            passSign(';');
        }

        private void readerClause() {
            int reader = plan.readers;
            if (reader >= MOST_READERS) {
                fail(TOO_MUCH);
                return;
            }
            plan.readers++;
            tokens.advance();
            plan.pace[reader] = takeNumber(1, MOST_PACE);
            plan.colour[reader] = passWord(Word.COLOUR_WORD) ? takeNumber(0, MOST_COLOUR) : 0;
            plan.back[reader] = passWord(Word.BACK_WORD) ? takeNumber(0, MOST_BACK) : 0;
            plan.ends[reader] = passWord(Word.ENDS_WORD) ? 1 : 0;
            plan.lawFrom[reader] = plan.codeLength;
            if (passWord(Word.STOPS_WORD)) {
                level(OR_LEVEL, 0);
            }
            plan.lawTo[reader] = plan.codeLength;
            passSign(';');
        }

        private boolean passWord(Word word) {
            boolean stands = tokens.word == word;
            if (stands) {
                tokens.advance();
            }
            return stands;
        }

        private void passSign(int sign) {
            if (tokens.kind == sign) {
                tokens.advance();
            } else {
                fail(MISPLACED);
            }
        }

        private int takeNumber(int least, int most) {
            int number = tokens.number;
            if (tokens.kind != NUMBER) {
                fail(MISPLACED);
            } else if (number < least || number > most) {
                fail(TOO_MUCH);
            } else {
                tokens.advance();
            }
            return number;
        }

        /**
         * EXPR, AND, NOT, SUM and PRODUCT are alike: rows of what binds closer, joined by
         * signs of their own LEVEL. around tells how many EXPRS are open around this one.
         */
        private void level(int level, int around) {
            int nots = level == NOT_LEVEL ? passNots() : 0;
            operand(level, around);
            int most = level == NOT_LEVEL ? 1 : MOST_BYTES;
            for (int i = 0; i < most && tokens.joins() == level; i++) {
                int sign = tokens.operation();
                tokens.advance();
                operand(level, around);
                plan.putCode(-sign);
            }
            for (int i = 0; i < nots; i++) {
                plan.putCode(-NOT);
            }
        }

        private void operand(int level, int around) {
            if (level < PRODUCT_LEVEL) {
                level(level + 1, around);
            } else if (tokens.kind == '(') {
                tokens.advance();
                exprWithin(around + 1);
                passSign(')');
            } else {
                takePart();
            }
        }

        private void exprWithin(int around) {
            if (around <= MOST_EXPRS_AROUND) {
                level(OR_LEVEL, around);
            } else if (tokens.kind == NUMBER || tokens.kind == WORD || tokens.kind == '(') {
                fail(TOO_MUCH);
            } else {
                fail(MISPLACED);
            }
        }

        private int passNots() {
            int nots = 0;
            while (nots < MOST_NOTS && passWord(Word.NOT_WORD)) {
                nots++;
            }
            if (tokens.word == Word.NOT_WORD) {
                fail(TOO_MUCH);
            }
            return nots;
        }

        private void takePart() {
            if (tokens.kind != NUMBER && tokens.kind != WORD) {
                fail(MISPLACED);
            } else if (tokens.number > GREATEST_NUMBER) {
                fail(TOO_MUCH);
            } else if (tokens.kind == WORD && tokens.word.value == NONE) {
                fail(NO_VALUE);
            } else {
                plan.putCode(tokens.kind == WORD ? FIRST_VALUE + tokens.word.value : tokens.number);
                tokens.advance();
            }
        }
    }

    /** What a text tells: BOOKS and READERS, with the laws of STOPS as code. */
    private static final class Plan {
        private int books = 0;
        private final int[] pages = new int[MOST_BOOKS];
        private final int[] partPages = new int[MOST_BOOKS];
        private int readers = 0;
        private final int[] pace = new int[MOST_READERS];
        private final int[] colour = new int[MOST_READERS];
        private final int[] back = new int[MOST_READERS];
        private final int[] ends = new int[MOST_READERS];
        private final int[] lawFrom = new int[MOST_READERS];
        private final int[] lawTo = new int[MOST_READERS];
        /** All laws, one behind the other; a TOKEN makes one number at most. */
        private final int[] code = new int[MOST_BYTES];
        private int codeLength = 0;

        /** Rows behind the counts are never read, so only the counts go back. */
        void clear() {
            books = 0;
            readers = 0;
            codeLength = 0;
        }

        void putCode(int number) {
            if (codeLength < code.length) {
                code[codeLength] = number;
                codeLength++;
            }
        }

        /** A BOOK without PARTS is as one PART. */
        int partBegin(int book, int page) {
            int size = partPages[book];
            return size < 1 ? 1 : page - (page - 1) % size;
        }
    }

    /** Tells of a page whether a law of STOPS holds; its code has operations behind what they take. */
    private static final class Law {
        private final int[] values = new int[VALUES];
        private final int[] stack = new int[MOST_WAITING_VALUES];
        private int height = 0;

        boolean holds(int[] code, int from, int to) {
            height = 0;
            for (int i = Math.max(0, from); i < to && i < code.length; i++) {
                obey(code[i]);
            }
            return pop() != 0;
        }

        private void obey(int number) {
            if (number == -NOT) {
                push(pop() == 0 ? 1 : 0);
            } else if (number < 0) {
                int right = pop();
                int left = pop();
                push(apply(-number, left, right));
            } else if (number < FIRST_VALUE) {
                push(number);
            } else if (number - FIRST_VALUE < VALUES) {
                push(values[number - FIRST_VALUE]);
            }
        }

        private static int apply(int sign, int left, int right) {
            switch (sign) {
                case OR:
                    return left != 0 || right != 0 ? 1 : 0;
                case AND:
                    return left != 0 && right != 0 ? 1 : 0;
                case '<':
                    return left < right ? 1 : 0;
                case '=':
                    return left == right ? 1 : 0;
                case '+':
                    return left + right;
                case '-':
                    return left - right;
                case '*':
                    return left * right;
                default:
                    return right == 0 ? 0 : left / right;
            }
        }

        private void push(int value) {
            if (height < stack.length) {
                stack[height] = value;
                height++;
            }
        }

        private int pop() {
            if (height < 1) {
                return 0;
            }
            height--;
            return stack[height];
        }
    }

    /** All that an IMAGE keeps. A cell is a READER's place in the rows for one BOOK. */
    private static final class Ledger {
        private static final int WORDS = (MOST_PAGES + 63) / 64;

        private int loans = 0;
        private final int[] loanRows = new int[MOST_LOANS * LOAN_FIELDS];
        private int latestBegin = 0;
        private final int[] bookUntil = new int[MOST_BOOKS];
        private final int[] readerUntil = new int[MOST_READERS];
        private final int[] slip = new int[CELLS];
        /** Where the SLIP was laid last; a DROP does not change that. */
        private final int[] laid = new int[CELLS];
        private final int[] readPages = new int[CELLS];
        private final int[] allReadAt = new int[CELLS];
        private final long[] readBits = new long[CELLS * WORDS];
        private int looks = 0;
        private final int[] lookRows = new int[MOST_LOOKS * LOOK_FIELDS];
        private int wishes = 0;
        private final int[] wishHours = new int[MOST_WISHES];
        private final int[] wishReady = new int[MOST_WISHES];
        private final int[] tales = new int[TALES * MOST_BOOKS];
        private final int[] refusals = new int[REFUSALS];

        /** All but STATUS, which outlives a ROOM. Rows behind the counts are never read. */
        void clear() {
            loans = 0;
            latestBegin = 0;
            looks = 0;
            wishes = 0;
            Arrays.fill(bookUntil, 0);
            Arrays.fill(readerUntil, 0);
            Arrays.fill(slip, 0);
            Arrays.fill(laid, 0);
            Arrays.fill(readPages, 0);
            Arrays.fill(allReadAt, NONE);
            Arrays.fill(readBits, 0L);
            Arrays.fill(tales, 0);
        }

        void copy(Ledger other) {
            loans = other.loans;
            latestBegin = other.latestBegin;
            looks = other.looks;
            wishes = other.wishes;
            System.arraycopy(other.loanRows, 0, loanRows, 0, loans * LOAN_FIELDS);
            System.arraycopy(other.bookUntil, 0, bookUntil, 0, MOST_BOOKS);
            System.arraycopy(other.readerUntil, 0, readerUntil, 0, MOST_READERS);
            System.arraycopy(other.slip, 0, slip, 0, CELLS);
            System.arraycopy(other.laid, 0, laid, 0, CELLS);
            System.arraycopy(other.readPages, 0, readPages, 0, CELLS);
            System.arraycopy(other.allReadAt, 0, allReadAt, 0, CELLS);
            System.arraycopy(other.readBits, 0, readBits, 0, CELLS * WORDS);
            System.arraycopy(other.lookRows, 0, lookRows, 0, looks * LOOK_FIELDS);
            System.arraycopy(other.wishHours, 0, wishHours, 0, MOST_WISHES);
            System.arraycopy(other.wishReady, 0, wishReady, 0, MOST_WISHES);
            System.arraycopy(other.tales, 0, tales, 0, TALES * MOST_BOOKS);
            System.arraycopy(other.refusals, 0, refusals, 0, REFUSALS);
        }

        boolean isRead(int cell, int page) {
            return ((readBits[cell * WORDS + (page - 1) / 64] >>> ((page - 1) % 64)) & 1L) == 1L;
        }

        void mark(int cell, int page, int pages, int hour) {
            if (isRead(cell, page)) {
                return;
            }
            readBits[cell * WORDS + (page - 1) / 64] |= 1L << ((page - 1) % 64);
            readPages[cell]++;
            if (readPages[cell] == pages) {
                allReadAt[cell] = hour;
            }
        }

        int openedPages(int book) {
            int opened = 0;
            for (int word = 0; word < WORDS; word++) {
                long anybody = 0L;
                for (int reader = 0; reader < MOST_READERS; reader++) {
                    anybody |= readBits[cellOf(reader, book) * WORDS + word];
                }
                opened += Long.bitCount(anybody);
            }
            return opened;
        }

        int pagesInARow(int cell, int pages) {
            int page = 1;
            while (page <= pages && isRead(cell, page)) {
                page++;
            }
            return page - 1;
        }

        boolean onlyTheEnds(int cell, int pages) {
            return isRead(cell, pages) && 10 * readPages[cell] < pages;
        }

        void enterLoan(int reader, int book, int from, int hours, int begin, int pages) {
            int row = loans * LOAN_FIELDS;
            loanRows[row] = reader;
            loanRows[row + 1] = book;
            loanRows[row + 2] = from;
            loanRows[row + 3] = hours;
            loanRows[row + 4] = begin;
            loanRows[row + 5] = pages;
            loans++;
            latestBegin = from;
            bookUntil[book] = from + hours;
            readerUntil[reader] = from + hours;
        }

        int slipsIn(int book) {
            int slips = 0;
            for (int reader = 0; reader < MOST_READERS; reader++) {
                if (slip[cellOf(reader, book)] > 0) {
                    slips++;
                }
            }
            return slips;
        }

        /** How many SLIPS a DROP loses. */
        int moveSlips(int book, int by, int pages) {
            int lost = 0;
            for (int reader = 0; reader < MOST_READERS; reader++) {
                int cell = cellOf(reader, book);
                int page = slip[cell] + by;
                if (slip[cell] > 0 && (by == 0 || page < 1 || page > pages)) {
                    slip[cell] = NONE;
                    lost++;
                } else if (slip[cell] > 0) {
                    slip[cell] = page;
                }
            }
            return lost;
        }

        int enterLook(int book, int hour, int colour, int page) {
            int row = looks * LOOK_FIELDS;
            lookRows[row] = book;
            lookRows[row + 1] = hour;
            lookRows[row + 2] = colour;
            lookRows[row + 3] = page;
            looks++;
            return looks - 1;
        }

        int looksIn(int book) {
            int found = 0;
            for (int look = 0; look < looks; look++) {
                if (lookBook(look) == book) {
                    found++;
                }
            }
            return found;
        }

        int lookBook(int look) {
            return lookRows[look * LOOK_FIELDS];
        }

        int lookHour(int look) {
            return lookRows[look * LOOK_FIELDS + 1];
        }

        int lookColour(int look) {
            return lookRows[look * LOOK_FIELDS + 2];
        }

        int lookPage(int look) {
            return lookRows[look * LOOK_FIELDS + 3];
        }

        /** No answer tells who wished, so the READER is not kept. */
        int enterWish(int hours, int ready) {
            wishHours[wishes] = hours;
            wishReady[wishes] = ready;
            wishes++;
            return wishes;
        }
    }

    /**
     * The WAYS for one BOOK. Sets of its LOOKS are bits by their places in the row of
     * LOOKS by HOURS; READERS mind only their own LOOKS, so a WAY is a split of all
     * LOOKS into one set a READER that fits him.
     */
    private static final class Sharing {
        private Plan plan;
        private int looks = 0;
        private final int[] number = new int[MOST_LOOKS_OF_BOOK];
        private final int[] hour = new int[MOST_LOOKS_OF_BOOK];
        private final int[] colour = new int[MOST_LOOKS_OF_BOOK];
        private final int[] page = new int[MOST_LOOKS_OF_BOOK];
        /** By READER and LOOK: HOURS that he had the BOOK, and LOANS that he began, ahead of it. */
        private final int[] lentHours = new int[MOST_READERS * MOST_LOOKS_OF_BOOK];
        private final int[] begunLoans = new int[MOST_READERS * MOST_LOOKS_OF_BOOK];
        private final boolean[] fits = new boolean[MOST_READERS * LOOK_SETS];
        /** By set: in how many ways some READERS share it, each LOOK of it given. */
        private final int[] splits = new int[LOOK_SETS];

        Sharing(Plan plan) {
            this.plan = plan;
        }

        void gather(Plan newPlan, Ledger ledger, int book) {
            plan = newPlan;
            looks = 0;
            for (int look = 0; look < ledger.looks; look++) {
                if (ledger.lookBook(look) == book) {
                    enter(ledger, look);
                }
            }
            Arrays.fill(lentHours, 0);
            Arrays.fill(begunLoans, 0);
            for (int loan = 0; loan < ledger.loans; loan++) {
                int row = loan * LOAN_FIELDS;
                if (ledger.loanRows[row + 1] == book) {
                    addLoan(ledger.loanRows[row], ledger.loanRows[row + 2], ledger.loanRows[row + 3]);
                }
            }
            for (int reader = 0; reader < plan.readers; reader++) {
                findFits(reader);
            }
        }

        int waysInAll() {
            split(NONE);
            return splits[allLooks()];
        }

        int readersOf(int look) {
            int readers = 0;
            for (int reader = 0; reader < plan.readers; reader++) {
                if (mayHave(reader, look)) {
                    readers |= 1 << reader;
                }
            }
            return readers;
        }

        int endOf(int reader, boolean greatest) {
            split(reader);
            int end = NONE;
            for (int set = 0; set <= allLooks(); set++) {
                if (happens(reader, set)) {
                    int last = set == 0 ? 1 : page[lastIn(set)];
                    boolean better = greatest ? last > end : last < end;
                    end = end == NONE || better ? last : end;
                }
            }
            return end;
        }

        int movedLooks() {
            if (waysInAll() > 0) {
                return 0;
            }
            int moved = 0;
            for (int look = 0; look < looks; look++) {
                if (splits[allLooks() ^ (1 << look)] > 0) {
                    moved |= 1 << number[look];
                }
            }
            return moved;
        }

        private int allLooks() {
            return (1 << looks) - 1;
        }

        private void enter(Ledger ledger, int look) {
            if (looks >= MOST_LOOKS_OF_BOOK) {
                return;
            }
            int place = looks;
            while (place > 0 && hour[place - 1] > ledger.lookHour(look)) {
                number[place] = number[place - 1];
                hour[place] = hour[place - 1];
                colour[place] = colour[place - 1];
                page[place] = page[place - 1];
                place--;
            }
            number[place] = look;
            hour[place] = ledger.lookHour(look);
            colour[place] = ledger.lookColour(look);
            page[place] = ledger.lookPage(look);
            looks++;
        }

        private void addLoan(int reader, int from, int hours) {
            for (int look = 0; look < looks; look++) {
                if (from < hour[look]) {
                    int at = reader * MOST_LOOKS_OF_BOOK + look;
                    lentHours[at] += Math.min(hours, hour[look] - from);
                    begunLoans[at]++;
                }
            }
        }

        private void findFits(int reader) {
            int base = reader * LOOK_SETS;
            fits[base] = true;
            for (int set = 1; set <= allLooks(); set++) {
                int last = lastIn(set);
                int rest = set ^ (1 << last);
                fits[base + set] = fits[base + rest] && colour[last] == plan.colour[reader]
                        && (rest == 0 ? mayBeFirst(reader, last) : mayFollow(reader, lastIn(rest), last));
            }
        }

        private boolean mayBeFirst(int reader, int look) {
            return page[look] - 1 <= plan.pace[reader] * lentHours[reader * MOST_LOOKS_OF_BOOK + look];
        }

        private boolean mayFollow(int reader, int before, int look) {
            int at = reader * MOST_LOOKS_OF_BOOK + look;
            int atBefore = reader * MOST_LOOKS_OF_BOOK + before;
            int least = page[before] - plan.back[reader] * (begunLoans[at] - begunLoans[atBefore]);
            int most = page[before] + plan.pace[reader] * (lentHours[at] - lentHours[atBefore]);
            return hour[before] < hour[look] && page[look] >= least && page[look] <= most;
        }

        private static int lastIn(int set) {
            int last = 0;
            for (int look = 0; look < MOST_LOOKS_OF_BOOK; look++) {
                if (((set >> look) & 1) == 1) {
                    last = look;
                }
            }
            return last;
        }

        /** Fills splits for all READERS but one. */
        private void split(int left) {
            Arrays.fill(splits, 0);
            splits[0] = 1;
            for (int reader = 0; reader < plan.readers; reader++) {
                if (reader != left) {
                    addSharer(reader);
                }
            }
        }

        /** From the greatest set down, since a set needs the old numbers of those within it. */
        private void addSharer(int reader) {
            int base = reader * LOOK_SETS;
            for (int set = allLooks(); set > 0; set--) {
                for (int own = set; own > 0; own = (own - 1) & set) {
                    if (fits[base + own]) {
                        splits[set] += splits[set ^ own];
                    }
                }
            }
        }

        /** Whether in some WAY a READER has just that set; split() without him goes ahead. */
        private boolean happens(int reader, int set) {
            return fits[reader * LOOK_SETS + set] && splits[allLooks() ^ set] > 0;
        }

        private boolean mayHave(int reader, int look) {
            split(reader);
            boolean may = false;
            for (int set = 1; set <= allLooks(); set++) {
                may = may || (holds(set, look) && happens(reader, set));
            }
            return may;
        }

        private boolean holds(int set, int look) {
            boolean found = false;
            for (int place = 0; place < looks; place++) {
                found = found || (number[place] == look && ((set >> place) & 1) == 1);
            }
            return found;
        }
    }

    /** Finds the ORDER of least WAITING and keeps it. */
    private static final class Turns {
        private final int[] order = new int[MOST_WISHES];
        private int length = 0;
        private final int[] row = new int[MOST_WISHES];
        private int least = 0;

        void clear() {
            length = 0;
        }

        int arrange(Ledger ledger) {
            least = ABOVE_ALL_WAITING;
            length = ledger.wishes;
            place(ledger, 0, 0, 0, 0);
            return least;
        }

        /** Rows come in their order, so of like ones the first is kept; waiting never shrinks. */
        private void place(Ledger ledger, int depth, int placed, int through, int waited) {
            if (waited >= least) {
                return;
            }
            if (depth >= ledger.wishes || depth >= MOST_WISHES) {
                least = waited;
                System.arraycopy(row, 0, order, 0, length);
                return;
            }
            for (int wish = 0; wish < ledger.wishes; wish++) {
                if (((placed >> wish) & 1) == 0) {
                    int ready = ledger.wishReady[wish];
                    int begin = Math.max(through, ready);
                    row[depth] = wish;
                    place(ledger, depth + 1, placed | (1 << wish), begin + ledger.wishHours[wish],
                            waited + begin - ready);
                }
            }
        }
    }

    /** The fewest looks by which it is known which of some TALES is true, for each set of them. */
    private static final class Settling {
        private final int[] fewestLooks = new int[TALE_SETS];
        private final int[] firstBook = new int[TALE_SETS];

        /** Smaller sets go ahead, since a look leaves one of them. */
        void weigh(int[] tales, int books, int asked) {
            for (int set = 0; set <= asked && set < TALE_SETS; set++) {
                if ((set & asked) == set) {
                    weighSet(tales, books, set);
                }
            }
        }

        private void weighSet(int[] tales, int books, int set) {
            firstBook[set] = NONE;
            if (Integer.bitCount(set) <= 1) {
                fewestLooks[set] = 0;
                return;
            }
            fewestLooks[set] = NONE;
            for (int book = 0; book < books; book++) {
                int looks = looksFrom(tales, book, set);
                if (looks != NONE && (fewestLooks[set] == NONE || looks < fewestLooks[set])) {
                    fewestLooks[set] = looks;
                    firstBook[set] = book;
                }
            }
        }

        private int looksFrom(int[] tales, int book, int set) {
            int worst = 0;
            for (int tale = 0; tale < TALES; tale++) {
                if (((set >> tale) & 1) == 1) {
                    int left = leftBy(tales, book, set, tales[tale * MOST_BOOKS + book]);
                    if (left == set || fewestLooks[left] == NONE) {
                        return NONE;
                    }
                    worst = Math.max(worst, fewestLooks[left]);
                }
            }
            return worst + 1;
        }

        private static int leftBy(int[] tales, int book, int set, int page) {
            int left = 0;
            for (int tale = 0; tale < TALES; tale++) {
                if (((set >> tale) & 1) == 1 && tales[tale * MOST_BOOKS + book] == page) {
                    left |= 1 << tale;
                }
            }
            return left;
        }
    }
}
