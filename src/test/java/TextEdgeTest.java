/** Boundary cases of promises 1 to 5 and of a ROOM's text, but for what laws answer. */
public final class TextEdgeTest {
    private static final Edge EDGE = new Edge("TextEdgeTest");
    private static final int LEAST = Integer.MIN_VALUE;
    private static final int GREATEST = Integer.MAX_VALUE;
    /** A room in which there is some of everything, for a FAULT or a wrong call to leave alone. */
    private static final String[] LIVED = {
        "tell book 20 parts 6; book 9; reader 5 back 1 stops page = 3; reader 4 colour 2 ends; = 0",
        "loan 0 0 5 2 = 8", "loan 1 1 6 1 = 4", "drop 0 7 5 = 0", "look 0 7 0 9 = 0", "look 1 7 2 3 = 1",
        "wish 0 2 1 = 1", "wish 1 1 1 = 2", "waiting = 1", "tale 0 0 5 = true", "image = kept",
        "loan 0 1 9 1 = 3", "loan 0 1 9 1 = -1", "wish 0 3 9 = 3", "tale 1 1 2 = true"};

    /** The text "book 77;book 8;    ;". */
    private static final String TWO_BOOKS = "feed 0x626f6f6b 0x2037373b 0x626f6f6b 0x20383b20 0x2020203b = 20";

    public static void main(String[] args) {
        newObject();
        tapeIsFull();
        tapeBytes();
        roomOfBytes();
        roomRefuses();
        roomIsAnew();
        faultLeavesAll();
        faultPlace();
        counts();
        books();
        readers();
        nearWords();
        tokens();
        allBytes();
        clauses();
        numbers();
        endsTooSoon();
        firstAlongTheText();
        deepExprs();
        manyNots();
        noValues();
        wholeTape();
        EDGE.end();
    }

    private static void fault(String name, String text, int fault, int place) {
        EDGE.holds(name, LIVED, "tell " + text + " = fault " + fault + " at " + place);
    }

    private static void good(String name, String text) {
        EDGE.holds(name, "tell " + text + " = 0", "fault = -1", "count 7 = 0");
    }

    // ---- promises 1 to 5

    private static void newObject() {
        EDGE.holds("1: no BOOKS, no READERS", "count 0 = 0", "count 1 = 0", "book 0 0 = no element",
                "reader 0 0 = no element", "slip 0 0 = no element", "loan 0 0 0 1 = no element",
                "drop 0 0 0 = no element", "read 0 0 0 = no element", "has 0 0 1 = no element",
                "ahead 0 1 0 = no element", "look 0 0 0 1 = no element", "ways 0 = no element",
                "ends 0 0 0 = no element", "moved 0 = no element", "wish 0 1 0 = no element",
                "tale 0 0 0 = no element");
        EDGE.holds("1: nothing is there yet", Edge.each(12, what -> "count " + what + " = 0"), "fault = -1",
                "lent 0 0 = no element", "whose 0 0 = no element", "turn 0 = no element", "waiting = 0",
                "turn 0 = no element", "settle 0 0 = 0", "settle 1 0 = 0", "settle 3 0 = -1", "settle 3 1 = -1",
                "restore = false");
        EDGE.holds("1: an image of nothing", "image = kept", "restore = true", "count 0 = 0", "restore = true");
    }

    private static void tapeIsFull() {
        EDGE.holds("2: the first twenty", "blanks = 20", "count 5 = 20");
        EDGE.holds("2: 700 bytes, and no more", Edge.each(35, i -> "blanks = " + 20 * (i + 1)), "count 5 = 700",
                "feed 1 2 3 4 5 = full", "count 5 = 700", "blanks = full", "room 700 = 0");
        EDGE.holds("2: none of the 36th come", Edge.each(35, i -> "blanks = " + 20 * (i + 1)),
                "feed 0 0 0 0 0 = full", "room 700 = 0", "fault = -1");
        EDGE.holds("2: behind a room() there is place again", Edge.each(35, i -> "blanks = " + 20 * (i + 1)),
                "room 3 = 0", "count 5 = 0", "blanks = 20");
        EDGE.holds("2: a feed changes nothing else", LIVED, "blanks = 20", "count 0 = 2", "count 2 = 3",
                "count 3 = 2", "count 4 = 3", "turn 0 = 1", "slip 0 0 = 14", "restore = true", "count 5 = 20");
    }

    private static void tapeBytes() {
        EDGE.holds("2: the highest first, the numbers in their order",
                "feed 0x626f6f6b 0x2037373b 0x626f6f6b 0x20202031 0x323b2020 = 20", "room 20 = 0",
                "book 0 0 = 77", "book 1 0 = 12", "count 0 = 2");
        EDGE.holds("2: a sign bit is a byte's highest bit", "feed -1 0 0 0 0 = 20", "room 1 = 1", "fault = 0");
        EDGE.holds("2: the lowest byte of the last number is the twentieth",
                "feed 0x20202020 0x20202020 0x20202020 0x20202020 0x2020203b = 20", "room 20 = 1", "fault = 19");
        EDGE.holds("2: bytes of the next feed come behind",
                "feed 0x20202020 0x20202020 0x20202020 0x20202020 0x20202062 = 20",
                "feed 0x6f6f6b39 0x3b3b3b3b 0x3b3b3b3b 0x3b3b3b3b 0x3b3b3b3b = 40", "room 25 = 0", "book 0 0 = 9");
    }

    private static void roomOfBytes() {
        EDGE.holds("3: no bytes of no tape", "room 0 = 0", "fault = -1", "count 0 = 0");
        EDGE.holds("3: no bytes of some", LIVED, "blanks = 20", "room 0 = 0", "count 0 = 0", "count 1 = 0",
                "count 5 = 0");
        EDGE.holds("3: all bytes", TWO_BOOKS,
                "room 20 = 1", "fault = 19");
        EDGE.holds("3: the first ones alone", TWO_BOOKS,
                "room 19 = 0", "count 0 = 2", "count 5 = 0");
        EDGE.holds("3: a NUMBER that is cut", TWO_BOOKS,
                "room 6 = 1", "fault = 6");
        EDGE.holds("3: a word that is cut", TWO_BOOKS,
                "room 11 = 1", "fault = 8");
        EDGE.holds("3: the tape is empty with a FAULT too", "blanks = 20", "feed 0 0 0 0 0 = 40", "room 21 = 1",
                "fault = 20", "count 5 = 0", "room 1 = bad argument");
    }

    private static void roomRefuses() {
        EDGE.holds("3: the tape has not so many", LIVED, "room 1 = bad argument", "blanks = 20",
                "room 21 = bad argument", "room " + GREATEST + " = bad argument", "room 700 = bad argument",
                "room 701 = bad argument", "room 20 = 0");
        EDGE.holds("3: n below 0", LIVED, "room -1 = bad argument", "blanks = 20", "room -1 = bad argument",
                "room " + LEAST + " = bad argument");
        EDGE.holds("3: no more than 700 of a full tape", Edge.each(35, i -> "blanks = " + 20 * (i + 1)),
                "room 701 = bad argument", "room 700 = 0");
        EDGE.holds("3: behind a room() the tape has none", "tell book 1; = 0", "room 1 = bad argument",
                "book 0 0 = 1");
    }

    private static void roomIsAnew() {
        EDGE.holds("3: all that is gone", LIVED, "tell book 20 parts 6; book 9; reader 5; reader 4 colour 2; = 0",
                Edge.each(5, what -> "count " + (what + 2) + " = 0"), "lent 0 0 = no element", "slip 0 0 = 0",
                "slip 1 1 = 0", "read 0 0 0 = 0", "read 0 0 3 = -1", "has 0 0 1 = false", "book 0 2 = 20",
                "book 1 2 = 9", "book 0 3 = 0", "book 0 4 = 0", "reader 0 4 = 0", "whose 0 0 = no element",
                "ways 0 = 1", "settle 3 0 = -1", "turn 0 = no element", "restore = false", "waiting = 0");
        EDGE.holds("3: STATUS is not among it", LIVED, "tell book 1; = 0", "count 8 = 1", "tell ? = fault 1 at 0",
                "tell book 1; = 0", "count 7 = 1", "count 8 = 1");
        EDGE.holds("3: a shorter room leaves none of the longer one", LIVED, "tell book 3; = 0", "count 1 = 0",
                "book 1 0 = no element", "reader 0 0 = no element");
        EDGE.holds("3: what a new room does not tell is as without", "tell book 9 parts 2; reader 1 colour 3 "
                + "back 20 ends stops 1; = 0", "tell book 9; reader 2; = 0", "book 0 1 = 0", "reader 0 1 = 0",
                "reader 0 2 = 0", "reader 0 3 = 0", "loan 0 0 0 2 = 4", "has 0 0 9 = false");
        EDGE.holds("3: the first time, for ENDS, is there again", "tell book 9; reader 2 ends; = 0", "loan 0 0 0 1 = 2",
                "tell book 9; reader 2 ends; = 0", "loan 0 0 0 1 = 2", "has 0 0 9 = true", "lent 0 4 = 1");
        EDGE.holds("3: lost SLIPS are gone too", "tell book 9 parts 2; reader 5; = 0", "loan 0 0 0 1 = 5",
                "drop 0 1 0 = 1", "tell book 9 parts 2; reader 5; = 0", "slip 0 0 = 0", "loan 0 0 0 1 = 5",
                "lent 0 4 = 1");
        EDGE.holds("3: a law as long as the tape, again and again",
                Edge.each(6, i -> "tell book 9;reader 9 stops " + i % 2 + "*1".repeat(325) + ";" + " = 0"),
                "loan 0 0 0 1 = 1", "tell book 9;reader 9 stops 0" + "*1".repeat(325) + "; = 0", "loan 0 0 0 1 = 9");
        EDGE.holds("3: a text that fills all rows, twice", "tell " + "book 9;".repeat(10) + "reader 9;".repeat(8)
                + " = 0", "tell " + "book 8;".repeat(10) + "reader 8;".repeat(8) + " = 0", "book 9 0 = 8",
                "reader 7 0 = 8");
    }

    private static void faultLeavesAll() {
        fault("3: all stays with a FAULT at once", "?", 1, 0);
        fault("3: all stays with a FAULT behind whole clauses",
                "book 7; reader 60 stops 1; reader 59 colour 1 back 3 ends stops 0;" + "book 8;".repeat(9) + "?", 1,
                66 + 63);
        fault("3: all stays with a FAULT within a law", "book 1; reader 1 stops 1 + 2 * (3 or foo);", 3, 37);
        EDGE.holds("3: the law stays too", "tell book 9; reader 9 stops page = 4; = 0",
                "tell book 9; reader 9 stops 1; reader 9 stops page = 2 = fault 1 at 49", "loan 0 0 0 1 = 4");
        EDGE.holds("3: STATUS 0 counts each FAULT", "tell ? = fault 1 at 0", "tell book 0; = fault 2 at 5",
                "tell reader 1 stops x; = fault 3 at 15", "count 7 = 3", "tell book 1; = 0", "count 7 = 3");
        EDGE.holds("3: an exception is no FAULT", "room 1 = bad argument", "count 7 = 0");
    }

    private static void faultPlace() {
        EDGE.holds("4: NONE ahead of any room()", "fault = -1", "blanks = 20", "fault = -1");
        EDGE.holds("4: NONE without a FAULT", "tell book 1; = 0", "fault = -1");
        EDGE.holds("4: the latest room()'s", "tell book 0; = fault 2 at 5", "fault = 5",
                "tell book 1;? = fault 1 at 7", "fault = 7", "tell book 1; = 0", "fault = -1");
        EDGE.holds("4: a room() that throws changes nothing", "tell book 0; = fault 2 at 5", "room 1 = bad argument",
                "fault = 5");
        EDGE.holds("4: place 0 is no NONE", "tell ; = fault 1 at 0", "fault = 0");
        EDGE.holds("4: it outlives an image", "image = kept", "tell ; = fault 1 at 0", "restore = true", "fault = 0");
    }

    private static void counts() {
        EDGE.holds("5: another what", LIVED, "count -1 = no element", "count 12 = no element",
                "count " + LEAST + " = no element", "count " + GREATEST + " = no element");
        EDGE.holds("5: 10 BOOKS, 8 READERS", "tell " + "book 9;".repeat(10) + "reader 9;".repeat(8) + " = 0",
                "count 0 = 10", "count 1 = 8");
        EDGE.holds("5: READERS alone, BOOKS alone", "tell reader 1; = 0", "count 0 = 0", "count 1 = 1",
                "tell book 1; = 0", "count 0 = 1", "count 1 = 0");
        EDGE.holds("5: the latest begin, 0 without", "tell book 9; book 9; reader 1; reader 1; = 0", "count 6 = 0",
                "loan 0 0 0 5 = 5", "count 6 = 0", "loan 1 1 3 1 = 1", "count 6 = 3", "drop 1 4 1 = 0",
                "count 6 = 4", "drop 1 4 1 = 0", "count 6 = 4", "loan 1 1 8759 1 = 1", "count 6 = 8759");
        EDGE.holds("5: each STATUS by itself", "tell book 9; reader 1; = 0", "loan 0 0 0 0 = refused",
                "drop 0 0 51 = refused", "drop 0 0 51 = refused", "look 0 0 0 0 = refused", "wish 0 0 0 = refused",
                "wish 0 0 0 = refused", "wish 0 0 0 = refused", "tell ? = fault 1 at 0", "count 7 = 1",
                "count 8 = 1", "count 9 = 2", "count 10 = 1", "count 11 = 3");
        EDGE.holds("5: STATUS goes as far as the calls", "tell book 9; reader 1; = 0",
                Edge.each(480, i -> "loan 0 0 0 0 = -1"), "count 8 = 480");
        EDGE.holds("5: a feed, a tale or an exception has no STATUS", "tell book 9; = 0", "tale 6 0 0 = false",
                "tale 0 1 0 = no element", "loan 0 0 0 1 = no element", "room 1 = bad argument",
                Edge.each(5, what -> "count " + (what + 7) + " = 0"));
    }

    // ---- the text

    private static void books() {
        good("BOOKS: none", " ");
        good("BOOKS: 10", "book 1;".repeat(10));
        fault("BOOKS: the 11th one's first TOKEN", "book 1;".repeat(11), 2, 70);
        fault("BOOKS: the 11th, though nothing follows", "book 1;".repeat(10) + "book", 2, 70);
        fault("BOOKS: the 11th, though what follows is none", "book 1;".repeat(10) + "book ?", 2, 70);
        fault("BOOKS: the 11th behind READERS", "book 1;".repeat(9) + "reader 1; book 1; reader 1; book 1;", 2, 91);
        good("PAGES: 1", "book 1;");
        good("PAGES: 400", "book 400;");
        fault("PAGES: 0", "book 0;", 2, 5);
        fault("PAGES: 401", "book 401;", 2, 5);
        fault("PAGES: 9999", "book 9999;", 2, 5);
        good("PAGES: zeros ahead", "book 0400;");
        good("PARTS: 1 page each", "book 9 parts 1;");
        good("PARTS: 400 pages each", "book 400 parts 400;");
        good("PARTS: longer than the BOOK", "book 1 parts 400;");
        fault("PARTS: 0", "book 9 parts 0;", 2, 13);
        fault("PARTS: 401", "book 9 parts 401;", 2, 13);
        EDGE.holds("PARTS: none without", "tell book 9; book 9 parts 1; book 9 parts 400; = 0", "book 0 1 = 0",
                "book 1 1 = 1", "book 2 1 = 400");
    }

    private static void readers() {
        good("READERS: 8", "reader 1;".repeat(8));
        fault("READERS: the 9th one's first TOKEN", "reader 1;".repeat(9), 2, 72);
        fault("READERS: the 9th, though nothing follows", "reader 1;".repeat(8) + "reader", 2, 72);
        fault("READERS: the 9th behind BOOKS", "reader 1;".repeat(8) + "book 1; reader 1;", 2, 80);
        good("PACE: 1", "reader 1;");
        good("PACE: 60", "reader 60;");
        fault("PACE: 0", "reader 0;", 2, 7);
        fault("PACE: 61", "reader 61;", 2, 7);
        good("COLOUR: 0", "reader 1 colour 0;");
        good("COLOUR: 3", "reader 1 colour 3;");
        fault("COLOUR: 4", "reader 1 colour 4;", 2, 16);
        good("BACK: 0", "reader 1 back 0;");
        good("BACK: 20", "reader 1 back 20;");
        fault("BACK: 21", "reader 1 back 21;", 2, 14);
        EDGE.holds("COLOUR, BACK, ENDS: 0 without", "tell reader 1; reader 60 colour 3 back 20 ends; = 0",
                "reader 0 0 = 1", "reader 0 1 = 0", "reader 0 2 = 0", "reader 0 3 = 0", "reader 1 0 = 60",
                "reader 1 1 = 3", "reader 1 2 = 20", "reader 1 3 = 1");
        EDGE.holds("STOPS: never without", "tell book 400; reader 60; = 0", "loan 0 0 0 1 = 60");
    }

    /** Words that are nearly the ones that may stand. */
    private static void nearWords() {
        for (String word : new String[] {"book", "reader"}) {
            for (String near : near(word)) {
                fault("no " + word + ": " + near, "book 1; " + near + " 1;", 1, 8);
            }
        }
        for (String near : near("parts")) {
            fault("no parts: " + near, "book 1 " + near + " 1;", 1, 7);
        }
        for (String word : new String[] {"colour", "back", "ends", "stops"}) {
            for (String near : near(word)) {
                fault("no " + word + ": " + near, "reader 1 " + near + (word.equals("ends") ? ";" : " 1;"), 1, 9);
            }
        }
        for (String word : new String[] {"or", "and"}) {
            for (String near : near(word)) {
                fault("no " + word + ": " + near, "reader 1 stops 1 " + near + " 1;", 1, 17);
            }
        }
        for (String word : new String[] {"page", "left", "into", "read", "hour", "day", "book", "not"}) {
            for (String near : near(word)) {
                fault("no " + word + ": " + near, "reader 1 stops " + near + ";", 3, 15);
            }
        }
    }

    private static String[] near(String word) {
        int last = word.length() - 1;
        return new String[] {"z" + word.substring(1), word.substring(0, last) + "z", word.substring(1),
            word.substring(0, last), "z" + word, word + "z", word + word};
    }

    private static void tokens() {
        good("blanks: none between TOKENS that part by themselves", "book9parts3;reader1colour2back3ends stops1;");
        good("blanks: many", "  \n book \n\n 9   ;  \n");
        fault("words: the longest row", "bookparts 9;", 1, 0);
        fault("words: a row that begins as one", "books 9;", 1, 0);
        fault("words: a row that ends too soon", "boo k 9;", 1, 0);
        fault("words: a row of words", "reader 1 endsstops 1;", 1, 9);
        fault("words: no capitals", "book 9; Book 9;", 1, 8);
        good("words: a NUMBER ends one", "reader9stops page-1;");
        fault("NUMBERS: a word behind one", "book 9x;", 1, 6);
        good("NUMBERS: of 4 digits", "reader 1 stops 9999 + 0000;");
        fault("NUMBERS: parted by a blank they are two", "book 1 2;", 1, 7);
        good("signs: side by side", "reader 1 stops((1)<(2))=(3)*4/5+6-7;");
        fault("signs: -1 is no NUMBER", "book -1;", 1, 5);
    }

    /** Every byte alone where a CLAUSE, and where a PART may begin. */
    private static void allBytes() {
        for (int sign = 0; sign < 256; sign++) {
            boolean blank = sign == 32 || sign == 10;
            boolean letter = sign >= 'a' && sign <= 'z';
            boolean digit = sign >= '0' && sign <= '9';
            String name = "byte " + sign;
            EDGE.holds(name + " as a CLAUSE", "tell book 1;" + (char) sign + " = " + (blank ? "0" : "fault 1 at 7"));
            String want = digit ? "0" : letter ? "fault 3 at 15" : blank || sign == '(' ? "fault 1 at 16"
                    : "fault 1 at 15";
            EDGE.holds(name + " as a PART", "tell reader 1 stops " + (char) sign + "; = " + want);
            boolean joins = "+-*/<=".indexOf(sign) >= 0;
            String behind = joins ? "fault 1 at 17" : digit || blank || sign == ';' ? "0" : "fault 1 at 16";
            EDGE.holds(name + " behind a PART", "tell reader 1 stops 1" + (char) sign
                    + (sign == ';' ? "" : ";") + " = " + behind);
        }
    }

    private static void clauses() {
        good("CLAUSE: all that may stand", "book 1 parts 2; reader 3 colour 1 back 2 ends stops 4;");
        good("CLAUSE: none of what may stand", "book 1; reader 1;");
        good("CLAUSE: each one alone", "reader 1 colour 1; reader 1 back 1; reader 1 ends; reader 1 stops 1;");
        good("CLAUSE: one left out", "reader 1 back 1 ends stops 1; reader 1 colour 1 ends stops 1;"
                + "reader 1 colour 1 back 1 stops 1; reader 1 colour 1 back 1 ends;");
        fault("CLAUSE: begins otherwise", "parts 1;", 1, 0);
        fault("CLAUSE: a NUMBER", "1;", 1, 0);
        fault("CLAUSE: a ';' alone", "book 1;;", 1, 7);
        fault("CLAUSE: no NUMBER of PAGES", "book ;", 1, 5);
        fault("CLAUSE: a word for PAGES", "book page;", 1, 5);
        fault("CLAUSE: no NUMBER of PARTS", "book 1 parts;", 1, 12);
        fault("CLAUSE: PARTS twice", "book 1 parts 1 parts 1;", 1, 15);
        fault("CLAUSE: PARTS of a READER", "reader 1 parts 1;", 1, 9);
        fault("CLAUSE: COLOUR of a BOOK", "book 1 colour 1;", 1, 7);
        fault("CLAUSE: no PACE", "reader colour 1;", 1, 7);
        fault("CLAUSE: no NUMBER of COLOUR", "reader 1 colour back 1;", 1, 16);
        fault("CLAUSE: no NUMBER of BACK", "reader 1 back ends;", 1, 14);
        fault("CLAUSE: COLOUR behind BACK", "reader 1 back 1 colour 1;", 1, 16);
        fault("CLAUSE: BACK behind ENDS", "reader 1 ends back 1;", 1, 14);
        fault("CLAUSE: ENDS twice", "reader 1 ends ends;", 1, 14);
        fault("CLAUSE: ENDS behind STOPS", "reader 1 stops 1 ends;", 1, 17);
        fault("CLAUSE: STOPS twice", "reader 1 stops 1 stops 1;", 1, 17);
        fault("CLAUSE: without its ';'", "book 1 book 1;", 1, 7);
        fault("EXPR: empty", "reader 1 stops ;", 1, 15);
        fault("EXPR: empty in parentheses", "reader 1 stops ();", 1, 16);
        fault("EXPR: a parenthesis too many", "reader 1 stops (1));", 1, 18);
        fault("EXPR: a parenthesis too few", "reader 1 stops ((1);", 1, 19);
        fault("EXPR: two tests in a row", "reader 1 stops 1 < 2 < 3;", 1, 21);
        fault("EXPR: two tests in a row behind 'not'", "reader 1 stops not 1 = 2 = 3;", 1, 25);
        good("EXPR: two tests, one in parentheses", "reader 1 stops (1 < 2) < 3;");
        good("EXPR: tests joined by 'and', 'or'", "reader 1 stops 1 < 2 and 2 < 3 or 3 = 4;");
        fault("EXPR: a sign ahead", "reader 1 stops - 1;", 1, 15);
        fault("EXPR: two signs", "reader 1 stops 1 + - 1;", 1, 19);
        fault("EXPR: a sign behind", "reader 1 stops 1 *;", 1, 18);
        fault("EXPR: two PARTS", "reader 1 stops 1 page;", 1, 17);
        fault("EXPR: 'not' behind a PART", "reader 1 stops 1 not 1;", 1, 17);
        fault("EXPR: nothing behind 'not'", "reader 1 stops not ;", 1, 19);
        fault("EXPR: nothing behind 'or'", "reader 1 stops 1 or ;", 1, 20);
    }

    private static void numbers() {
        fault("NUMBER: of 5 digits, PAGES", "book 00001;", 2, 5);
        fault("NUMBER: of 5 digits, PARTS", "book 1 parts 00001;", 2, 13);
        fault("NUMBER: of 5 digits, PACE", "reader 00001;", 2, 7);
        fault("NUMBER: of 5 digits, COLOUR", "reader 1 colour 00001;", 2, 16);
        fault("NUMBER: of 5 digits, BACK", "reader 1 back 00001;", 2, 14);
        fault("NUMBER: of 5 digits, in an EXPR", "reader 1 stops 00001;", 2, 15);
        fault("NUMBER: 10000, in an EXPR", "reader 1 stops 1 = 10000;", 2, 19);
        good("NUMBER: 9999, in an EXPR", "reader 1 stops 9999;");
        good("NUMBER: 0, in an EXPR", "reader 1 stops 0;");
        good("NUMBER: of 4 digits, all of them", "book 0001 parts 0001; reader 0001 colour 0001 back 0001;");
        fault("NUMBER: that would wrap to 1", "book 4294967297;", 2, 5);
        fault("NUMBER: that would wrap to 1, in an EXPR", "reader 1 stops 4294967297;", 2, 15);
        fault("NUMBER: of very many digits", "book " + "9".repeat(600) + ";", 2, 5);
        fault("NUMBER: of 5 digits, where none can stand: the least", "book 1 00001;", 1, 7);
        fault("NUMBER: of 5 digits, where a CLAUSE begins", "00001", 1, 0);
        fault("NUMBER: of 5 digits, behind a PART", "reader 1 stops 1 00001;", 1, 17);
        fault("NUMBER: not as told, where none can stand", "book 1 999;", 1, 7);
    }

    private static void endsTooSoon() {
        fault("end: behind 'book'", "book", 1, 4);
        fault("end: behind PAGES", "book 1", 1, 6);
        fault("end: behind 'parts'", "book 1 parts", 1, 12);
        fault("end: behind PARTS", "book 1 parts 1", 1, 14);
        fault("end: behind 'reader'", "reader", 1, 6);
        fault("end: behind PACE", "reader 1", 1, 8);
        fault("end: behind 'colour'", "reader 1 colour", 1, 15);
        fault("end: behind COLOUR", "reader 1 colour 1", 1, 17);
        fault("end: behind 'back'", "reader 1 back", 1, 13);
        fault("end: behind BACK", "reader 1 back 1", 1, 15);
        fault("end: behind 'ends'", "reader 1 ends", 1, 13);
        fault("end: behind 'stops'", "reader 1 stops", 1, 14);
        fault("end: behind an EXPR", "reader 1 stops 1", 1, 16);
        fault("end: behind a sign", "reader 1 stops 1 <", 1, 18);
        fault("end: behind 'not'", "reader 1 stops not", 1, 18);
        fault("end: behind 'and'", "reader 1 stops 1 and", 1, 20);
        fault("end: behind a parenthesis", "reader 1 stops (", 1, 16);
        fault("end: within parentheses", "reader 1 stops (1", 1, 17);
        fault("end: within 6 EXPRS", "reader 1 stops ((((((", 1, 21);
        fault("end: blanks are a part of the text's length", "book 1  \n", 1, 9);
        fault("end: of a text of 700 bytes", "book 1" + " ".repeat(694), 1, 700);
    }

    private static void firstAlongTheText() {
        fault("FAULTS: 1 ahead of 2", "book ?; book 0;", 1, 5);
        fault("FAULTS: 2 ahead of 1", "book 0; book ?;", 2, 5);
        fault("FAULTS: 3 ahead of 1", "reader 1 stops x ?;", 3, 15);
        fault("FAULTS: 3 ahead of 2", "reader 1 stops x + 12345;", 3, 15);
        fault("FAULTS: 2 ahead of 3", "reader 1 stops 12345 + x;", 2, 15);
        fault("FAULTS: 2 ahead of the end", "book 0", 2, 5);
        fault("FAULTS: at the TOKEN's first byte", "  book   401;", 2, 9);
        fault("FAULTS: at a word's first byte", "book 1;  bo", 1, 9);
        fault("FAULTS: the 11th BOOK ahead of its own", "book 1;".repeat(10) + "book 0;", 2, 70);
    }

    private static void deepExprs() {
        String six = "reader 1 stops ((((((";
        good("EXPR: within 5 others", "reader 1 stops (((((1)))));");
        fault("EXPR: within 6 others, a NUMBER", six + "1))))));", 2, 21);
        fault("EXPR: within 6 others, a NUMBER of 5 digits", six + "12345))))));", 2, 21);
        fault("EXPR: within 6 others, a VALUE", six + "page))))));", 2, 21);
        fault("EXPR: within 6 others, 'not'", six + "not 1))))));", 2, 21);
        fault("EXPR: within 6 others, any word", six + "foo))))));", 2, 21);
        fault("EXPR: within 6 others, 'or'", six + "or))))));", 2, 21);
        fault("EXPR: within 6 others, a parenthesis", six + "(1)))))));", 2, 21);
        fault("EXPR: within 6 others, behind a blank", six + " 1))))));", 2, 22);
        fault("EXPR: within 6 others, a ')' can't stand there", six + ")", 1, 21);
        fault("EXPR: within 6 others, a sign can't stand there", six + "+ 1", 1, 21);
        fault("EXPR: within 6 others, a ';' can't stand there", six + ";", 1, 21);
        fault("EXPR: within 6 others, what is no TOKEN", six + "?", 1, 21);
        fault("EXPR: within 6 others, behind a sign in each",
                "reader 1 stops 1+(2+(3+(4+(5+(6+(7))))));", 2, 33);
        good("EXPR: within 5 others, behind a sign in each", "reader 1 stops 1+(2+(3+(4+(5+(6)))));");
        good("EXPR: within 5 others, again and again", "reader 1 stops (((((1)))))*(((((2)))))or(((((3)))));");
        fault("EXPR: within 6 others, the second time",
                "reader 1 stops (((((1)))))*((((((2))))));", 2, 33);
        good("EXPR: within 5 others, in a next READER",
                "reader 1 stops (((((1))))); reader 1 stops (((((1)))));");
        good("EXPR: 'not' is no EXPR around", "reader 1 stops not (not (not (not (not (not 1)))));");
    }

    private static void manyNots() {
        String not = "not ";
        good("'not': six side by side", "reader 1 stops " + not.repeat(6) + "1;");
        fault("'not': the seventh", "reader 1 stops " + not.repeat(7) + "1;", 2, 39);
        fault("'not': the seventh, though nothing follows", "reader 1 stops " + not.repeat(6) + "not", 2, 39);
        fault("'not': the seventh of ten", "reader 1 stops " + not.repeat(10) + "1;", 2, 39);
        good("'not': six behind 'and'", "reader 1 stops " + not.repeat(6) + "1 and " + not.repeat(6) + "1;");
        fault("'not': the seventh behind 'and'", "reader 1 stops 1 and " + not.repeat(7) + "1;", 2, 45);
        good("'not': six in parentheses behind six",
                "reader 1 stops " + not.repeat(6) + "(" + not.repeat(6) + "1);");
        fault("'not': the seventh in parentheses", "reader 1 stops (" + not.repeat(7) + "1);", 2, 40);
        fault("'not': a word that is none behind six", "reader 1 stops " + not.repeat(6) + "nots;", 3, 39);
        fault("'not': nothing behind six", "reader 1 stops " + not.repeat(6) + ";", 1, 39);
    }

    private static void noValues() {
        good("VALUES: all", "reader 1 stops page+left+into+read+hour+day+book;");
        for (String word : new String[] {"x", "parts", "reader", "colour", "back", "ends", "stops", "or", "and"}) {
            fault("no VALUE: " + word, "reader 1 stops " + word + ";", 3, 15);
        }
        fault("no VALUE: behind '<'", "reader 1 stops 1 < x;", 3, 19);
        fault("no VALUE: 'not' behind '='", "reader 1 stops 1 = not 1;", 3, 19);
        fault("no VALUE: 'not' behind '+'", "reader 1 stops 1 + not 1;", 3, 19);
        fault("no VALUE: 'not' behind '*'", "reader 1 stops 1 * not 1;", 3, 19);
        fault("no VALUE: behind 'not'", "reader 1 stops not x;", 3, 19);
        fault("no VALUE: 'and' behind 'or'", "reader 1 stops 1 or and 1;", 3, 20);
        fault("no VALUE: in parentheses", "reader 1 stops (x);", 3, 16);
        fault("no VALUE: within 5 EXPRS", "reader 1 stops (((((x)))));", 3, 20);
        fault("a word where no PART must stand", "reader 1 stops 1 x;", 1, 17);
        fault("a word behind parentheses", "reader 1 stops (1) x;", 1, 19);
    }

    private static void wholeTape() {
        good("700 bytes: a CLAUSE at the end", " ".repeat(693) + "book 1;");
        good("700 bytes: one EXPR", "reader 1 stops 1" + "+1".repeat(341) + " ;");
        good("700 bytes: every second one an operation", "reader 1 stops 1" + "*1".repeat(341) + "; ");
        fault("700 bytes: without the last ';'", " ".repeat(694) + "book 1", 1, 700);
        fault("700 bytes: one word", "a".repeat(700), 1, 0);
        fault("700 bytes: parentheses", "reader 1 stops " + "(".repeat(685), 2, 21);
        fault("700 bytes: signs", ";".repeat(700), 1, 0);
        fault("700 bytes: the last one is none", " ".repeat(699) + "?", 1, 699);
    }
}
