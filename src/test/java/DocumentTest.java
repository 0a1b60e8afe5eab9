import java.util.ArrayList;
import java.util.List;

/**
 * The document once more from its first line: each of its sentences in its own words, with calls
 * whose answers would be others if it were broken. What is due was worked out from the words alone.
 */
public final class DocumentTest {
    private static final Edge DOC = new Edge("DocumentTest");
    private static final String TWO = "tell book 30; book 30; reader 5; reader 4; = 0";

    public static void main(String[] args) {
        booksAndReaders();
        tokens();
        clauses();
        exprs();
        values();
        faultsOne();
        faultsTwoAndThree();
        loans();
        whereHeBegins();
        hoursOfReading();
        drops();
        whatIsRead();
        looks();
        waysOfLooks();
        whatIsSure();
        wishes();
        tales();
        statusAndImage();
        textCalls();
        askingCalls();
        tellingCalls();
        lookCalls();
        lastCalls();
        DOC.end();
    }

    private static String many(int n, String clause) {
        return "tell " + clause.repeat(n);
    }

    private static String blanksTo(int length, String text) {
        return text + " ".repeat(length - text.length());
    }

    // ---- Terms

    private static void booksAndReaders() {
        DOC.holds("A ROOM has BOOKS 0, 1 .. (at most 10)", many(10, "book 3;") + " = 0", "count 0 = 10",
                "book 0 0 = 3", "book 9 0 = 3", "book 10 0 = no element", many(11, "book 3;") + " = fault 2 at 70");
        DOC.holds("of PAGES 1, 2 .. (1 to 400 of them)", "tell book 1;book 400;reader 1; = 0", "book 0 0 = 1",
                "book 1 0 = 400", "has 0 1 0 = no element", "has 0 1 1 = false", "has 0 1 400 = false",
                "has 0 1 401 = no element", "tell book 0; = fault 2 at 5", "tell book 401; = fault 2 at 5");
        DOC.holds("of PARTS of so many pages each (1 to 400; the last one may be shorter; none without)",
                "tell book 7 parts 3;book 7 parts 400;book 7 parts 1;book 7;reader 7 stops into = 1; = 0",
                "book 0 1 = 3", "book 1 1 = 400", "book 2 1 = 1", "book 3 1 = 0", "loan 0 0 0 1 = 1",
                "loan 0 0 1 1 = 3", "loan 0 0 2 1 = 3", "slip 0 0 = 8", "loan 0 1 3 2 = 7", "loan 0 2 5 3 = 3",
                "tell book 7 parts 0; = fault 2 at 13", "tell book 7 parts 401; = fault 2 at 13");
        DOC.holds("READERS 0, 1 .. (at most 8)", many(8, "reader 2;") + " = 0", "count 1 = 8", "reader 0 0 = 2",
                "reader 7 0 = 2", "reader 8 0 = no element", many(9, "reader 2;") + " = fault 2 at 72");
        DOC.holds("PACE (1 to 60 pages an hour)", "tell book 400;reader 1;reader 60; = 0", "reader 0 0 = 1",
                "reader 1 0 = 60", "loan 0 0 0 2 = 2", "loan 1 0 2 2 = 120", "tell reader 0; = fault 2 at 7",
                "tell reader 61; = fault 2 at 7");
        DOC.holds("COLOUR (0 to 3; 0 without)", "tell reader 1;reader 1 colour 0;reader 1 colour 3; = 0",
                "reader 0 1 = 0", "reader 1 1 = 0", "reader 2 1 = 3", "tell reader 1 colour 4; = fault 2 at 16");
        DOC.holds("BACK (0 to 20; 0 without)", "tell reader 1;reader 1 back 0;reader 1 back 20; = 0",
                "reader 0 2 = 0", "reader 1 2 = 0", "reader 2 2 = 20", "tell reader 1 back 21; = fault 2 at 14");
        DOC.holds("ENDS (the last page first) or not", "tell book 9;reader 1;reader 1 ends; = 0", "reader 0 3 = 0",
                "reader 1 3 = 1", "loan 0 0 0 1 = 1", "has 0 0 9 = false", "loan 1 0 1 1 = 1", "has 1 0 9 = true");
        DOC.holds("STOPS (never without)", "tell book 400;reader 20;reader 20 stops 1; = 0", "loan 0 0 0 9 = 180",
                "loan 1 0 9 9 = 9");
    }

    private static void tokens() {
        DOC.holds("A TEXT of at most 700 bytes tells it", "tell " + blanksTo(700, "book 9;") + " = 0", "count 0 = 1",
                Edge.each(35, i -> "blanks = " + 20 * (i + 1)), "blanks = full", "room 701 = bad argument",
                "room 700 = 0", "count 0 = 0");
        DOC.holds("words (a .. z, the longest row)", "tell books 9; = fault 1 at 0", "tell boo 9; = fault 1 at 0",
                "tell bookreader 9; = fault 1 at 0", "tell Book 9; = fault 1 at 0", "tell book9parts3;reader2ends; = 0",
                "book 0 1 = 3", "reader 0 3 = 1", "tell reader2endsstops 1; = fault 1 at 7");
        DOC.holds("NUMBERS (1 to 4 digits)", "tell book 9;book 0009; = 0", "book 1 0 = 9",
                "tell book 00009; = fault 2 at 5");
        DOC.holds("signs ; ( ) + - * / < =", "tell reader 1 stops (1+2-3*4/5<6)=7; = 0",
                "tell reader 1 stops 1>2; = fault 1 at 16", "tell reader 1 stops [1]; = fault 1 at 15");
        DOC.holds("blanks (32, 10) between them count for nothing", "tell \n book\n  \n9 ;\n = 0", "book 0 0 = 9",
                "tell book\t9; = fault 1 at 4", "tell book 9;\r = fault 1 at 7", "tell bo ok 9; = fault 1 at 0",
                "tell book 1 2; = fault 1 at 7");
    }

    private static void clauses() {
        DOC.holds("ROOM: CLAUSE*", "tell  = 0", "count 0 = 0", "tell reader 3;book 2;reader 4;book 1; = 0",
                "count 0 = 2", "count 1 = 2", "book 0 0 = 2", "book 1 0 = 1", "reader 0 0 = 3", "reader 1 0 = 4");
        DOC.holds("CLAUSE: ('book' NUMBER ['parts' NUMBER] |", "tell book 9 parts 3; = 0",
                "tell book parts 3; = fault 1 at 5", "tell book 9 3; = fault 1 at 7", "tell book 9 parts; = fault 1 at 12",
                "tell book 9 parts 3 parts 3; = fault 1 at 15", "tell book 9 colour 1; = fault 1 at 7");
        DOC.holds("'reader' NUMBER ['colour' NUMBER] ['back' NUMBER] ['ends'] ['stops' EXPR]) ';'",
                "tell reader 9 colour 2 back 3 ends stops 1; = 0", "reader 0 1 = 2", "reader 0 2 = 3", "reader 0 3 = 1",
                "tell reader colour 2; = fault 1 at 7", "tell reader 9 back 3 colour 2; = fault 1 at 16",
                "tell reader 9 stops 1 ends; = fault 1 at 17", "tell reader 9 ends ends; = fault 1 at 14",
                "tell reader 9 ends back 1; = fault 1 at 14", "tell reader 9 stops; = fault 1 at 14",
                "tell reader 9 book 1; = fault 1 at 9");
    }

    /** Whether a law holds behind page 1: then a reader of two pages an hour reads but one. */
    private static void law(String quote, String holds, String... others) {
        List<String> rows = new ArrayList<>(List.of("tell book 2;reader 2 stops " + holds + "; = 0", "loan 0 0 0 1 = 1"));
        for (String other : others) {
            boolean due = !other.startsWith("NO ");
            rows.add("tell book 2;reader 2 stops " + (due ? other : other.substring("NO ".length())) + "; = 0");
            rows.add("loan 0 0 0 1 = " + (due ? 1 : 2));
        }
        DOC.holds(quote, (Object) rows.toArray(new String[0]));
    }

    private static void exprs() {
        law("EXPR: AND ('or' AND)*", "0 or 1", "1 or 0 and 0", "0 and 0 or 1", "0 or 0 or 1", "NO 0 or 0");
        law("AND: NOT ('and' NOT)*", "1 and 1", "NO not 0 and 0", "NO 1 and 1 and 0", "1 and not 0 and 1");
        law("NOT: 'not' NOT | SUM [('<' | '=') SUM]", "not 1 = 2", "not 3 < 2", "not not 7", "NO not not 0", "1 < 2",
                "NO 2 < 2", "2 = 2", "NO 2 = 1", "1 + 1 = 3 - 1", "NO 1 - 1");
        law("SUM: PRODUCT (('+' | '-') PRODUCT)*", "1 + 2 * 3 = 7", "2 * 3 + 1 = 7", "9 - 8 / 2 = 5");
        law("PRODUCT: PART (('*' | '/') PART)*", "2 * 3 * 4 = 24", "8 / 3 * 3 = 6", "8 * 3 / 3 = 8");
        law("PART: NUMBER | VALUE | '(' EXPR ')'", "9999", "page", "(1)", "(1 + 2) * 3 = 9", "2 * (0 or 5) = 2",
                "NO 2 * (1 and 0)");
        law("From the left", "9 - 3 - 2 = 4", "9 - 3 + 2 = 8", "64 / 4 / 2 = 8", "7 / 2 * 2 = 6");
        law("ints that wrap", "9999 * 9999 * 9999 < 0", "9999 * 9999 * 9999 = 0 - 9999 * 9999 * 10 - 9999 * 2755 - 2714",
                "8192 * 8192 * 64 = 0");
        law("/ cut down to 0, by 0 gives 0", "7 / 2 = 3", "(0 - 7) / 2 = 0 - 3", "7 / (0 - 2) = 0 - 3", "5 / 0 = 0",
                "NO 5 / 0", "0 / 0 = 0", "1 + 5 / (3 - 3) = 1",
                "(8192 * 8192 * 32) / (0 - 1) = 8192 * 8192 * 32");
        law("tests, not, and, or are 1 or 0 (what isn't 0 holds)", "(3 < 4) + (5 = 5) = 2", "(3 < 3) + (5 = 4) = 0",
                "(not 5) = 0", "(not 0) = 1", "(7 and 9) = 1", "(7 and 0) = 0", "(7 or 9) = 1", "(0 or 9) = 1",
                "(0 or 0) = 0", "7", "0 - 7", "NO 0", "not 0", "NO not (0 - 7)", "(0 - 1) and (0 - 1)",
                "0 or 0 - 1");
    }

    private static void values() {
        DOC.holds("VALUES, of a page that was just read: 'page'", "tell book 9;reader 9 stops page = 4; = 0",
                "loan 0 0 0 1 = 4", "loan 0 0 1 1 = 5");
        DOC.holds("'left' (pages behind it)", "tell book 9;reader 9 stops left = 4; = 0", "loan 0 0 0 1 = 5",
                "tell book 9;reader 5 stops left = 0; = 0", "loan 0 0 0 1 = 5");
        DOC.holds("'into' (its number in its part, from 1; without PARTS its own)",
                "tell book 9 parts 3;book 9;reader 9 stops into = 2; = 0", "loan 0 0 0 2 = 5", "loan 0 1 2 2 = 9",
                "slip 0 1 = 10", "tell book 9;reader 9 stops into = 6; = 0", "loan 0 0 0 1 = 6");
        DOC.holds("'read' (pages read in this LOAN, it counted)", "tell book 20;reader 9 back 2 stops read = 3; = 0",
                "loan 0 0 0 1 = 3", "loan 0 0 1 1 = 3", "lent 1 4 = 2", "loan 0 0 2 2 = 12", "slip 0 0 = 15");
        DOC.holds("'hour' (of the day)", "tell book 20;reader 3 stops hour = 1; = 0", "loan 0 0 0 2 = 4",
                "loan 0 0 24 2 = 4");
        DOC.holds("'day'", "tell book 20;reader 3 stops day = 1; = 0", "loan 0 0 22 4 = 8");
        DOC.holds("'book'.", "tell book 20;book 20;reader 3 stops book = 1; = 0", "loan 0 0 0 1 = 3",
                "loan 0 1 1 1 = 1");
    }

    private static void faultsOne() {
        DOC.holds("FAULTS, the first along the text, at a TOKEN's first byte", "tell book 9;  what 5;? = fault 1 at 9",
                "tell book 401;? = fault 2 at 5", "tell reader 5 stops what or 12345; = fault 3 at 15");
        DOC.holds("of one TOKEN the least", "tell 12345 = fault 1 at 0", "tell book 9 12345; = fault 1 at 7",
                "tell reader 5 stops ((((((what)))))); = fault 2 at 21",
                "tell " + "book 3;".repeat(10) + "books 3; = fault 1 at 70");
        DOC.holds("1 a TOKEN that can't stand there, or is none", "tell ; = fault 1 at 0", "tell 5 = fault 1 at 0",
                "tell stops 1; = fault 1 at 0", "tell book 9;; = fault 1 at 7", "tell book 9;# = fault 1 at 7",
                "tell book -9; = fault 1 at 5", "tell reader 1 stops 1 1; = fault 1 at 17",
                "tell reader 1 stops 1 < 2 < 3; = fault 1 at 21", "tell reader 1 stops (1; = fault 1 at 17",
                "tell reader 1 stops 1); = fault 1 at 16", "tell reader 1 stops +1; = fault 1 at 15",
                "tell reader 1 stops (); = fault 1 at 16", "tell reader 1 stops ?; = fault 1 at 15",
                "tell reader 1 stops 1 not 1; = fault 1 at 17");
        DOC.holds("(the text's length where it ends too soon)", "tell book = fault 1 at 4",
                "tell book 9   = fault 1 at 8", "tell book 9 parts 3 = fault 1 at 14",
                "tell reader 1 stops = fault 1 at 14", "tell reader 1 stops 1 + = fault 1 at 18",
                "tell reader 1 stops (1 = fault 1 at 17", "tell reader 1 stops ((((((\n = fault 1 at 22");
    }

    private static void faultsTwoAndThree() {
        DOC.holds("2 one that can, but is too much: a NUMBER of 5 digits or more", "tell book 00005; = fault 2 at 5",
                "tell reader 5 back 00005; = fault 2 at 14", "tell reader 5 stops 00005; = fault 2 at 15",
                "tell reader 5 stops 1 + 123456789012; = fault 2 at 19", "tell reader 5 stops 9999; = 0");
        DOC.holds("or (not in an EXPR) not as told", "tell book 9 parts 500; = fault 2 at 13",
                "tell reader 5 colour 9; = fault 2 at 16", "tell reader 5 stops 500; = 0");
        DOC.holds("the first TOKEN of the 11th BOOK, the 9th READER",
                many(10, "book 3;") + " book what = fault 2 at 71", many(8, "reader 2;") + "\nreader = fault 2 at 73",
                "tell " + "book 3;".repeat(10) + "reader 2;".repeat(8) + " = 0");
        DOC.holds("of an EXPR within 6 others (a NUMBER, any word, a parenthesis)",
                "tell reader 1 stops (((((1))))); = 0", "tell reader 1 stops ((((((1)))))); = fault 2 at 21",
                "tell reader 1 stops ((((((page)))))); = fault 2 at 21",
                "tell reader 1 stops ((((((not 1)))))); = fault 2 at 21",
                "tell reader 1 stops (((((((1))))))); = fault 2 at 21",
                "tell reader 1 stops (((((1) + (1 + (2)))))); = fault 2 at 31",
                "tell reader 1 stops ((((((+)))))); = fault 1 at 21", "tell reader 1 stops (((((())))))); = fault 1 at 21",
                "tell reader 1 stops (1) + (2) * (3) - ((4) or (5)) = (6) and (7); = 0");
        DOC.holds("the seventh 'not' side by side", many(1, "reader 1 stops ") + "not ".repeat(6) + "1; = 0",
                many(1, "reader 1 stops ") + "not ".repeat(7) + "1; = fault 2 at 39",
                many(1, "reader 1 stops ") + "not ".repeat(6) + "(" + "not ".repeat(6) + "1) and not 1; = 0",
                many(1, "reader 1 stops ") + "not ".repeat(6) + "1 or " + "not ".repeat(7) + "1; = fault 2 at 68");
        DOC.holds("3 any word where a PART must stand that is no VALUE", "tell reader 1 stops what; = fault 3 at 15",
                "tell reader 1 stops or 1; = fault 3 at 15", "tell reader 1 stops reader; = fault 3 at 15",
                "tell reader 1 stops pages; = fault 3 at 15", "tell reader 1 stops 1 + not 1; = fault 3 at 19",
                "tell reader 1 stops 1 = not 1; = fault 3 at 19", "tell reader 1 stops not and; = fault 3 at 19",
                "tell reader 1 stops (ends); = fault 3 at 16", "tell reader 1 stops 1 page; = fault 1 at 17");
    }

    // ---- 2: LOANS, DROPS, what is READ

    private static void loans() {
        DOC.holds("An HOUR is 24 by the day (0 to 364) and what it is of the day",
                "tell book 9;reader 3 stops day = 364 and hour = 23; = 0", "loan 0 0 8758 2 = 4",
                "tell book 9;reader 3 stops day = 0 and hour = 0; = 0", "loan 0 0 0 2 = 4");
        DOC.holds("A LOAN (at most 200)", "tell book 400;reader 1; = 0", Edge.each(200, i -> "loan 0 0 " + i + " 1 = 1"),
                "loan 0 0 200 1 = refused", "count 2 = 200", "lent 199 2 = 199", "drop 0 200 0 = 1");
        DOC.holds("a READER has a BOOK from an HOUR on for so many HOURS (1 to 24, up to HOUR 8759)",
                "tell book 400;reader 1; = 0", "loan 0 0 0 0 = refused", "loan 0 0 0 25 = refused",
                "loan 0 0 0 1 = 1", "loan 0 0 1 24 = 24", "loan 0 0 8737 24 = refused", "loan 0 0 8736 24 = 24",
                "loan 0 0 8760 1 = refused", "tell book 9;reader 1; = 0", "loan 0 0 -1 1 = refused",
                "loan 0 0 8759 2 = refused", "loan 0 0 8759 1 = 1");
        DOC.holds("it doesn't begin ahead of the latest LOAN's or DROP's begin", TWO, "loan 0 0 10 3 = 15",
                "loan 1 1 9 1 = refused", "loan 1 1 10 1 = 4", "drop 1 12 0 = 1", "loan 1 1 11 1 = refused",
                "loan 1 1 12 1 = 4");
        DOC.holds("and neither the READER nor the BOOK is in another LOAN still", TWO, "loan 0 0 10 3 = 15",
                "loan 0 1 12 1 = refused", "loan 1 0 12 1 = refused", "loan 1 1 12 1 = 4", "loan 0 0 13 1 = 5");
    }

    private static void whereHeBegins() {
        DOC.holds("He begins where: the first time, at page 1", "tell book 9;book 9;reader 2 back 3; = 0",
                "loan 0 0 0 1 = 2", "lent 0 4 = 1", "loan 0 1 1 1 = 2", "lent 1 4 = 1");
        DOC.holds("(with ENDS he reads the last page first; it takes no time)", "tell book 9;book 9;reader 2 ends; = 0",
                "loan 0 0 0 1 = 2", "lent 0 4 = 1", "has 0 0 9 = true", "has 0 0 2 = true", "has 0 0 3 = false",
                "slip 0 0 = 3", "has 0 1 9 = false", "loan 0 1 1 1 = 2", "has 0 1 9 = true");
        DOC.holds("later at his SLIP, BACK pages less (1 at least)", "tell book 30;reader 5 back 7;reader 5; = 0",
                "loan 0 0 0 1 = 5", "loan 0 0 1 2 = 10", "lent 1 4 = 1", "loan 0 0 3 1 = 5", "lent 2 4 = 4",
                "loan 1 0 4 1 = 5", "loan 1 0 5 1 = 5", "lent 4 4 = 6");
        DOC.holds("if his SLIP is lost, at the first page of the PART of the page on which it was laid last",
                "tell book 10 parts 4;reader 5 back 1; = 0", "loan 0 0 0 1 = 5", "drop 0 1 0 = 1",
                "loan 0 0 1 1 = 5", "lent 1 4 = 5", "slip 0 0 = 10", "drop 0 2 -9 = 0", "slip 0 0 = 1",
                "drop 0 2 -1 = 1", "loan 0 0 2 1 = 2", "lent 2 4 = 9");
        DOC.holds("(of the last page's, if it was laid behind that; at page 1 without PARTS)",
                "tell book 8 parts 4;book 8;reader 60; = 0", "loan 0 0 0 1 = 8", "slip 0 0 = 9", "drop 0 1 0 = 1",
                "loan 0 0 1 1 = 4", "lent 1 4 = 5", "loan 0 1 2 1 = 8", "drop 1 3 0 = 1", "loan 0 1 3 1 = 8",
                "lent 3 4 = 1");
    }

    private static void hoursOfReading() {
        DOC.holds("Each HOUR he reads at most PACE pages, one behind the other, up to the last one",
                "tell book 9;reader 4; = 0", "loan 0 0 0 2 = 8", "has 0 0 8 = true", "has 0 0 9 = false",
                "loan 0 0 2 2 = 1", "loan 0 0 4 1 = 0");
        DOC.holds("if STOPS holds behind a page, he reads no more in that HOUR",
                "tell book 20;reader 4 stops page = 2; = 0", "loan 0 0 0 2 = 6",
                "tell book 20;reader 4 stops page = 4; = 0", "loan 0 0 0 2 = 8",
                "tell book 20;reader 4 ends stops left = 0; = 0", "loan 0 0 0 1 = 4");
        DOC.holds("Then his SLIP is laid at the page that he would read next (one behind the last one, if he is through)",
                "tell book 9;reader 4; = 0", "slip 0 0 = 0", "loan 0 0 0 2 = 8", "slip 0 0 = 9", "loan 0 0 2 1 = 1",
                "slip 0 0 = 10", "loan 0 0 3 1 = 0", "lent 2 4 = 10", "slip 0 0 = 10");
    }

    private static void drops() {
        DOC.holds("A DROP of a BOOK at an HOUR (not ahead of the latest LOAN's or DROP's begin; not while it is lent)",
                TWO, "loan 0 0 10 3 = 15", "drop 1 9 1 = refused", "drop 1 10 1 = 0", "drop 0 12 1 = refused",
                "drop 0 13 1 = 0", "slip 0 0 = 17", "drop 1 12 1 = refused", "count 6 = 13", "drop 1 8760 1 = refused",
                "drop 1 8759 1 = 0");
        DOC.holds("by some pages (50 less to 50 more)", "tell book 400;reader 51; = 0", "loan 0 0 0 1 = 51",
                "drop 0 1 51 = refused", "drop 0 1 -51 = refused", "drop 0 1 50 = 0", "slip 0 0 = 102",
                "drop 0 1 -50 = 0", "slip 0 0 = 52");
        DOC.holds("each SLIP in it is moved by that, if it then lies at a page that there is; else it is lost",
                "tell book 9;book 9;reader 1;reader 8;reader 9; = 0", "loan 0 0 0 1 = 1", "loan 1 0 1 1 = 8",
                "loan 2 0 2 1 = 9", "loan 0 1 3 1 = 1", "drop 0 3 -1 = 0", "slip 0 0 = 1", "slip 1 0 = 8",
                "slip 2 0 = 9", "slip 0 1 = 2", "drop 0 3 -1 = 1", "slip 0 0 = -1", "slip 1 0 = 7", "slip 2 0 = 8",
                "drop 0 3 1 = 0", "slip 2 0 = 9", "drop 0 3 1 = 1", "slip 1 0 = 9", "slip 2 0 = -1", "book 0 3 = 1");
        DOC.holds("By 0 all are lost", "tell book 9;reader 1;reader 9; = 0", "loan 0 0 0 1 = 1", "loan 1 0 1 1 = 9",
                "drop 0 2 0 = 2", "slip 0 0 = -1", "slip 1 0 = -1", "drop 0 2 0 = 0");
    }

    private static void whatIsRead() {
        DOC.holds("READ of a READER of a BOOK: each page that he has read, once", "tell book 9;reader 4 back 3; = 0",
                "loan 0 0 0 1 = 4", "read 0 0 0 = 4", "loan 0 0 1 1 = 4", "read 0 0 0 = 5");
        DOC.holds("IN A ROW: how many from page 1 on, none left out", "tell book 20;reader 3 ends; = 0", "read 0 0 1 = 0",
                "loan 0 0 0 1 = 3", "read 0 0 1 = 3", "drop 0 1 2 = 0", "loan 0 0 1 1 = 3", "read 0 0 0 = 7",
                "read 0 0 1 = 3", "drop 0 2 -5 = 0", "loan 0 0 2 1 = 3", "lent 2 4 = 4", "read 0 0 1 = 8");
        DOC.holds("ONLY THE ENDS: who has READ the last page, and, of all pages, fewer than a tenth "
                + "(10 by READ less than PAGES)", "tell book 31;book 30;reader 2 ends;reader 2; = 0", "read 0 0 2 = 0",
                "loan 0 0 0 1 = 2", "read 0 0 0 = 3", "read 0 0 2 = 1", "loan 0 1 1 1 = 2", "read 0 1 2 = 0",
                "loan 1 0 1 1 = 2", "read 1 0 2 = 0", "loan 0 0 2 1 = 2", "read 0 0 2 = 0");
        DOC.holds("UNOPENED: pages that nobody has READ", "tell book 20;reader 3 ends;reader 5; = 0", "book 0 2 = 20",
                "loan 0 0 0 1 = 3", "book 0 2 = 16", "loan 1 0 1 1 = 5", "book 0 2 = 14", "tell book 400;reader 60; = 0",
                "loan 0 0 0 6 = 360", "book 0 2 = 40", "has 0 0 360 = true", "has 0 0 361 = false", "read 0 0 0 = 360");
        DOC.holds("AHEAD: of two whose SLIPS lie in a BOOK, how many pages one's lies behind the other's in the BOOK "
                + "(below 0: ahead of it)", "tell book 9;reader 3;reader 7;reader 1; = 0", "loan 0 0 0 1 = 3",
                "loan 1 0 1 1 = 7", "ahead 1 0 0 = 4", "ahead 0 1 0 = -4", "ahead 0 2 0 = no element",
                "loan 2 0 2 3 = 3", "ahead 0 2 0 = 0", "drop 0 5 -3 = 0", "slip 0 0 = 1", "ahead 1 0 0 = 4", "ahead 0 1 0 = -4",
                "book 0 3 = 3");
    }

    // ---- 3: LOOKS

    private static void looks() {
        DOC.holds("LOOKS 0, 1 .. (at most 24; of a BOOK at most 6)", many(5, "book 9;") + " = 0",
                Edge.each(24, i -> "look " + i / 6 + " 0 0 1 = " + i), "look 4 0 0 1 = refused", "count 3 = 24",
                many(2, "book 9;") + " = 0", Edge.each(6, i -> "look 0 0 0 1 = " + i), "look 0 0 0 1 = refused",
                "look 1 0 0 1 = 6");
        DOC.holds("in a BOOK, at an HOUR, a slip of a COLOUR lay at a page (1 to 401)", "tell book 9; = 0",
                "look 0 0 0 0 = refused", "look 0 0 0 402 = refused", "look 0 -1 0 1 = refused",
                "look 0 8760 0 1 = refused", "look 0 0 -1 1 = refused", "look 0 0 4 1 = refused", "look 0 0 0 1 = 0",
                "look 0 8759 3 401 = 1", "look 1 0 0 1 = no element");
        DOC.holds("A WAY for a BOOK gives each LOOK in it a READER of its COLOUR",
                "tell book 9;book 9;reader 1;reader 1 colour 2;reader 1; = 0", "look 0 0 2 1 = 0", "ways 0 = 1",
                "whose 0 1 = 1", "look 0 1 0 1 = 1", "ways 0 = 2", "whose 1 0 = 5", "ways 1 = 1",
                "look 0 2 3 1 = 2", "ways 0 = 0");
    }

    private static void waysOfLooks() {
        DOC.holds("no two are of one HOUR", "tell book 9;reader 1;reader 1; = 0", "look 0 3 0 1 = 0",
                "look 0 3 0 1 = 1", "ways 0 = 2", "look 0 4 0 1 = 2", "ways 0 = 4", "look 0 3 0 1 = 3", "ways 0 = 0");
        DOC.holds("the first one's page less 1 is at most PACE by LENT, LENT being HOURS by LOANS that he had the BOOK "
                + "ahead of that HOUR", "tell book 90;book 90;reader 5; = 0", "loan 0 0 10 4 = 20", "loan 0 1 14 4 = 20",
                "loan 0 0 18 1 = 5", "look 0 12 0 11 = 0", "ways 0 = 1", "look 1 12 0 2 = 1", "ways 1 = 0",
                "look 0 12 0 1 = 2", "ways 0 = 0",
                "tell book 90;reader 5; = 0", "loan 0 0 10 4 = 20", "look 0 12 0 12 = 0", "ways 0 = 0",
                "tell book 90;reader 5; = 0", "loan 0 0 10 4 = 20", "loan 0 0 18 1 = 5", "look 0 19 0 26 = 0",
                "ways 0 = 1", "tell book 90;reader 5; = 0", "loan 0 0 10 4 = 20", "look 0 10 0 1 = 0", "ways 0 = 1",
                "tell book 90;reader 5; = 0", "loan 0 0 10 4 = 20", "look 0 10 0 2 = 0", "ways 0 = 0");
        String back = "tell book 90;reader 5 back 3; = 0";
        DOC.holds("of each next one the page is no less than that of the one ahead less BACK by how many LOANS of that "
                + "BOOK he began between both HOURS", back, "loan 0 0 0 4 = 20", "loan 0 0 10 1 = 5",
                "loan 0 0 12 1 = 5", "look 0 5 0 19 = 0", "look 0 20 0 13 = 1", "ways 0 = 1", "look 0 21 0 12 = 2",
                "ways 0 = 0", "moved 0 = 4");
        DOC.holds("(at the first one's HOUR or behind it, ahead of the second one's)", back, "loan 0 0 0 4 = 20",
                "loan 0 0 10 1 = 5", "look 0 10 0 19 = 0", "look 0 11 0 16 = 1", "ways 0 = 1",
                back, "loan 0 0 0 4 = 20", "loan 0 0 10 1 = 5", "look 0 9 0 19 = 0", "look 0 10 0 18 = 1", "ways 0 = 0",
                back, "loan 0 0 0 4 = 20", "loan 0 0 10 1 = 5", "look 0 11 0 19 = 0", "look 0 12 0 18 = 1",
                "ways 0 = 0");
        DOC.holds("and at most that page and PACE by LENT between both HOURS", back, "loan 0 0 0 4 = 20",
                "look 0 2 0 4 = 0", "look 0 9 0 14 = 1", "ways 0 = 1", back, "loan 0 0 0 4 = 20", "look 0 2 0 4 = 0",
                "look 0 9 0 15 = 1", "ways 0 = 0", back, "loan 0 0 0 4 = 20", "look 0 9 0 14 = 0", "look 0 2 0 4 = 1",
                "ways 0 = 1");
    }

    private static void whatIsSure() {
        String three = "tell book 90;reader 5;reader 9;reader 5 colour 1; = 0";
        DOC.holds("How many WAYS", three, "ways 0 = 1", "look 0 1 0 1 = 0", "ways 0 = 2", "look 0 2 0 1 = 1",
                "ways 0 = 4", "look 0 2 1 1 = 2", "ways 0 = 4");
        DOC.holds("MAY: READERS that a LOOK has in some WAY; SURE: the one it has in all of them", three,
                "loan 1 0 0 1 = 9", "look 0 1 0 1 = 0", "whose 0 0 = 3", "whose 0 1 = -1", "look 0 1 0 7 = 1",
                "whose 0 0 = 1", "whose 0 1 = 0", "whose 1 0 = 2", "whose 1 1 = 1");
        DOC.holds("LEAST and MOST of a READER in a BOOK: of the page of his last LOOK in each WAY (1, if he has none in "
                + "it) the least, the greatest", three, "loan 1 0 0 1 = 9", "loan 0 0 1 1 = 5", "look 0 2 0 8 = 0",
                "ends 1 0 0 = 8", "ends 1 0 1 = 8", "ends 0 0 0 = 1", "ends 0 0 1 = 1", "look 0 3 0 5 = 1",
                "ends 0 0 0 = 5", "ends 0 0 1 = 5", "ends 1 0 1 = 8", "look 0 1 0 1 = 2", "ends 0 0 0 = 5",
                "ends 2 0 1 = 1");
        DOC.holds("MOVED: if there are no WAYS for a BOOK, those of its LOOKS, any one of which left out would leave "
                + "some", "tell book 90;book 90;reader 5; = 0", "loan 0 0 0 2 = 10", "look 1 0 0 1 = 0",
                "look 0 1 0 6 = 1", "moved 0 = 0", "look 0 2 0 5 = 2", "ways 0 = 0", "moved 0 = 6", "moved 1 = 0",
                "look 0 3 0 4 = 3", "moved 0 = 0");
    }

    // ---- 4: WISHES, TALES, STATUS, images

    private static void wishes() {
        DOC.holds("WISHES (at most 7): a READER would have one BOOK for so many HOURS (1 to 99) from an HOUR on at which "
                + "he is READY (0 to 999)", "tell reader 1; = 0", "wish 0 0 0 = refused", "wish 0 100 0 = refused",
                "wish 0 1 -1 = refused", "wish 0 1 1000 = refused", "wish 1 1 0 = no element", "wish 0 1 0 = 1",
                "wish 0 99 999 = 2", Edge.each(5, i -> "wish 0 1 0 = " + (i + 3)), "wish 0 1 0 = refused");
        DOC.holds("An ORDER of them, one behind the other, each as soon as he is READY and the one ahead is through",
                "tell reader 1; = 0", "wish 0 5 10 = 1", "wish 0 3 12 = 2", "waiting = 3", "turn 0 = 0", "turn 1 = 1",
                "wish 0 1 20 = 3", "waiting = 3", "wish 0 9 0 = 4", "waiting = 3", "turn 0 = 3", "turn 1 = 0");
        DOC.holds("WAITING: of each how long behind his READY he begins, together", "tell reader 1; = 0",
                "wish 0 4 0 = 1", "wish 0 4 0 = 2", "wish 0 4 0 = 3", "waiting = 12");
        DOC.holds("The least, of like ones the first as a row", "tell reader 1; = 0", "wish 0 5 0 = 1", "wish 0 2 1 = 2",
                "wish 0 1 3 = 3", "waiting = 4", "turn 0 = 1", "turn 1 = 2", "turn 2 = 0",
                "tell reader 1; = 0", "wish 0 2 0 = 1", "wish 0 2 0 = 2", "waiting = 2", "turn 0 = 0", "turn 1 = 1");
    }

    private static void tales() {
        DOC.holds("TALES 0 to 5: of a BOOK each tells a page of the one slip in it (0 to 401; 0 at first: none)",
                "tell book 9; = 0", "tale -1 0 1 = false", "tale 6 0 1 = false", "tale 0 0 -1 = false",
                "tale 0 0 402 = false", "tale 0 1 1 = no element", "settle 3 0 = -1", "tale 5 0 401 = true",
                "settle 33 0 = 1", "tale 5 0 0 = true", "settle 33 0 = -1");
        DOC.holds("Of some TALES (bits) one is true: the fewest looks into BOOKS by which, whatever is seen, it is known "
                + "which", "tell book 9;book 9;book 9; = 0", "tale 0 0 1 = true", "tale 1 0 1 = true",
                "tale 1 1 2 = true", "settle 7 0 = 2", "tale 3 2 3 = true", "settle 15 0 = 2", "settle 6 0 = 1",
                "settle 9 0 = 1");
        DOC.holds("(0 of one or none; none, if it can't be)", "tell book 9; = 0", "settle 0 0 = 0", "settle 1 0 = 0",
                "settle 32 0 = 0", "settle 3 0 = -1", "tale 0 0 1 = true", "settle 3 0 = 1", "settle 7 0 = -1");
        DOC.holds("the first BOOK by which it is so, the least", "tell book 9;book 9;book 9; = 0", "tale 0 1 1 = true",
                "tale 0 2 1 = true", "settle 3 1 = 1", "tale 2 2 2 = true", "settle 7 0 = 1", "settle 7 1 = 2",
                "tale 1 0 4 = true", "settle 3 1 = 0", "settle 7 1 = 2");
    }

    private static void statusAndImage() {
        DOC.holds("STATUS: how many calls were refused: 0 of TEXTS with a FAULT, 1 of LOANS, 2 of DROPS, 3 of LOOKS, 4 of "
                + "WISHES", TWO, "tell what = fault 1 at 0", "loan 0 0 0 0 = refused", "loan 0 0 0 0 = refused",
                "drop 0 0 51 = refused", "drop 0 -1 1 = refused", "drop 0 0 -51 = refused", "look 0 0 4 1 = refused",
                "wish 0 0 0 = refused", "wish 0 0 0 = refused", "count 7 = 1", "count 8 = 2", "count 9 = 3",
                "count 10 = 1", "count 11 = 2", TWO, "count 7 = 1", "count 8 = 2", "count 9 = 3", "count 10 = 1",
                "count 11 = 2");
        DOC.holds("AN IMAGE keeps LOANS and all that came of them, LOOKS, WISHES, TALES, STATUS", TWO,
                "loan 0 0 0 2 = 10", "look 0 2 0 11 = 0", "wish 0 4 0 = 1", "tale 0 0 7 = true", "wish 0 0 0 = refused",
                "image = kept", "loan 1 0 2 1 = 4", "drop 0 3 0 = 2", "loan 0 1 4 9 = 30", "look 0 2 0 11 = 1",
                "wish 0 4 0 = 2", "tale 0 0 0 = true", "wish 0 0 0 = refused", "loan 0 0 0 1 = refused",
                "restore = true", "count 2 = 1", "count 6 = 0", "slip 0 0 = 11", "slip 1 0 = 0", "slip 0 1 = 0",
                "read 0 1 3 = -1", "read 0 0 0 = 10", "read 0 1 0 = 0", "lent 0 5 = 10", "book 0 2 = 20",
                "book 1 2 = 30", "book 0 4 = 2", "reader 0 4 = 2", "reader 1 4 = 0",
                "count 3 = 1", "ways 0 = 1", "count 4 = 1", "waiting = 0", "settle 3 0 = 1", "count 11 = 1",
                "count 8 = 0");
    }

    // ---- the promises

    private static void textCalls() {
        DOC.holds("No BOOKS, no READERS.", "count 0 = 0", "count 1 = 0", "count 5 = 0", "count 6 = 0", "fault = -1",
                "book 0 0 = no element", "reader 0 0 = no element", "waiting = 0", "turn 0 = no element",
                "restore = false");
        DOC.holds("Twenty bytes come behind the tape, of each number the highest first: how many it has",
                "feed 0x626f6f6b 0x20392070 0x61727473 0x20333b72 0x65616465 = 20", "count 5 = 20",
                "feed 0x7220313b 0x20202020 0x20202020 0x20202020 0x20202020 = 40", "room 24 = 0", "book 0 0 = 9",
                "book 0 1 = 3", "reader 0 0 = 1");
        DOC.holds("NONE, and none come, if it would have more than 700", Edge.each(35, i -> "blanks = " + 20 * (i + 1)),
                "feed 0x62626262 1 2 3 4 = full", "count 5 = 700", "room 700 = 0", "blanks = 20");
        DOC.holds("The tape's first n bytes (it is empty then) are a ROOM, all anew: 0", TWO, "loan 0 0 0 1 = 5",
                "feed 0x626f6f6b 0x20393b77 0x20202020 0x20202020 0x20202020 = 20", "room 7 = 0", "count 5 = 0",
                "count 0 = 1", "book 0 0 = 9", "count 1 = 0", "book 0 2 = 9");
        DOC.holds("or the FAULT (all stays, but STATUS)", TWO, "loan 0 0 0 1 = 5", "tell book 9;w = fault 1 at 7",
                "count 0 = 2", "slip 0 0 = 6", "count 7 = 1", "count 5 = 0");
        DOC.holds("LOANS, LOOKS, WISHES, TALES, the ORDER, the image are gone", TWO, "loan 0 0 5 1 = 5",
                "look 0 6 0 2 = 0", "wish 0 1 0 = 1", "waiting = 0", "turn 0 = 0", "tale 0 0 1 = true", "image = kept",
                TWO, "count 2 = 0", "lent 0 0 = no element", "count 6 = 0", "slip 0 0 = 0", "read 0 0 0 = 0",
                "book 0 4 = 0", "reader 0 4 = 0", "count 3 = 0", "count 4 = 0", "turn 0 = no element", "settle 3 0 = -1",
                "restore = false");
        DOC.holds("the tape has not so many, n below 0 (nothing changes)", TWO, "blanks = 20", "room 21 = bad argument",
                "room -1 = bad argument", "count 5 = 20", "count 0 = 2", "count 7 = 0", "room 20 = 0");
        DOC.holds("The place of the latest room()'s FAULT; NONE without", "fault = -1", "tell book 0; = fault 2 at 5",
                "fault = 5", "room 1 = bad argument", "fault = 5", "tell  = 0", "fault = -1");
    }

    private static void askingCalls() {
        DOC.holds("0 BOOKS, 1 READERS, 2 LOANS, 3 LOOKS, 4 WISHES, 5 bytes of the tape, 6 the latest LOAN's or DROP's "
                + "begin (0 without), 7 to 11 STATUS 0 to 4", "tell book 9;book 9;reader 1;reader 1;reader 1; = 0",
                "count 6 = 0", "loan 0 0 7 1 = 1", "count 6 = 7", "look 0 8 0 1 = 0", "look 0 9 0 1 = 1",
                "wish 0 1 0 = 1", "wish 0 1 0 = 2", "wish 0 1 0 = 3", "wish 0 1 0 = 4", "blanks = 20", "count 0 = 2",
                "count 1 = 3", "count 2 = 1", "count 3 = 2", "count 4 = 4", "count 5 = 20", "drop 1 8 1 = 0",
                "count 6 = 8", "count -1 = no element", "count 12 = no element");
        DOC.holds("0 PAGES, 1 pages of a PART (0 without), 2 UNOPENED, 3 SLIPS in it, 4 until which HOUR it is lent "
                + "(0: never was)", "tell book 9 parts 4;book 8;reader 2;reader 9; = 0", "loan 0 0 5 2 = 4",
                "loan 1 0 7 1 = 9", "book 0 0 = 9", "book 0 1 = 4", "book 0 2 = 0", "book 0 3 = 2", "book 0 4 = 8",
                "book 1 0 = 8", "book 1 1 = 0", "book 1 2 = 8", "book 1 3 = 0", "book 1 4 = 0", "drop 0 8 4 = 1",
                "book 0 3 = 1", "book 0 4 = 8", "book 0 5 = no element", "book 0 -1 = no element", "book 2 0 = no element",
                "book -1 0 = no element");
        DOC.holds("0 PACE, 1 COLOUR, 2 BACK, 3 ENDS (1), 4 until which HOUR he has a BOOK (0: never had)",
                "tell book 9;reader 7 colour 2 back 5 ends;reader 8; = 0", "reader 0 4 = 0", "loan 0 0 5 3 = 9",
                "reader 0 0 = 7", "reader 0 1 = 2", "reader 0 2 = 5", "reader 0 3 = 1", "reader 0 4 = 8",
                "reader 1 4 = 0", "reader 0 5 = no element", "reader 0 -1 = no element", "reader 2 0 = no element",
                "reader -1 0 = no element");
        DOC.holds("0 READER, 1 BOOK, 2 from, 3 HOURS, 4 the page at which he began, 5 pages read", TWO,
                "lent 0 0 = no element", "loan 0 0 0 1 = 5", "loan 1 1 3 2 = 8", "loan 1 1 6 4 = 16", "lent 2 0 = 1",
                "lent 2 1 = 1", "lent 2 2 = 6", "lent 2 3 = 4", "lent 2 4 = 9", "lent 2 5 = 16", "lent 2 6 = no element",
                "lent 2 -1 = no element", "lent 3 0 = no element", "lent -1 0 = no element");
        DOC.holds("Where a READER's SLIP lies in a BOOK; 0: none was laid; NONE: it is lost", TWO, "slip 0 0 = 0",
                "loan 0 0 0 1 = 5", "slip 0 0 = 6", "drop 0 1 0 = 1", "slip 0 0 = -1", "slip 1 0 = 0",
                "slip 2 0 = no element", "slip 0 2 = no element");
        DOC.holds("READ (what 0), IN A ROW (1), whether ONLY THE ENDS (2: 1), the HOUR in which he came to have READ all "
                + "(3; NONE)", "tell book 16;reader 5 ends; = 0", "read 0 0 3 = -1", "loan 0 0 4 1 = 5",
                "read 0 0 0 = 6", "read 0 0 1 = 5", "read 0 0 2 = 0", "read 0 0 3 = -1", "loan 0 0 7 3 = 11",
                "read 0 0 0 = 16", "read 0 0 1 = 16", "read 0 0 3 = 8", "loan 0 0 10 1 = 0", "read 0 0 3 = 8",
                "tell book 11;reader 1 ends; = 0", "loan 0 0 0 1 = 1", "read 0 0 2 = 0", "tell book 21;reader 1 ends; = 0",
                "loan 0 0 0 1 = 1", "read 0 0 2 = 1", "read 0 0 4 = no element",
                "read 0 0 -1 = no element", "read 1 0 0 = no element", "read 0 1 0 = no element");
        DOC.holds("Whether a READER has READ a page", "tell book 9;reader 5; = 0", "loan 0 0 0 1 = 5", "has 0 0 5 = true",
                "has 0 0 6 = false", "has 0 0 0 = no element", "has 0 0 10 = no element", "has 1 0 1 = no element",
                "has 0 1 1 = no element");
        DOC.holds("also both are one, one has no SLIP there", TWO, "loan 0 0 0 1 = 5", "ahead 0 0 0 = no element",
                "ahead 0 1 0 = no element", "ahead 1 0 0 = no element", "loan 1 0 1 1 = 4", "ahead 0 1 0 = 1",
                "drop 0 2 -5 = 1", "ahead 0 1 0 = no element", "ahead 2 0 0 = no element", "ahead 0 1 2 = no element");
    }

    private static void tellingCalls() {
        DOC.holds("A LOAN: how many pages he read in it (also those READ before; the last one ahead, by ENDS, not "
                + "counted)", "tell book 9;reader 4 back 2 ends; = 0", "loan 0 0 0 1 = 4", "loan 0 0 1 1 = 4",
                "read 0 0 0 = 7", "loan 0 0 2 1 = 4", "read 0 0 0 = 9", "lent 0 5 = 4");
        DOC.holds("NoSuchElementException (ahead): no such READER, BOOK", TWO, "loan 2 0 0 0 = no element",
                "loan 0 2 -1 99 = no element", "loan -1 0 0 1 = no element", "loan 0 -1 0 1 = no element", "count 8 = 0");
        DOC.holds("A DROP: how many SLIPS were lost. NONE (STATUS 2): not as told", TWO, "loan 0 0 0 1 = 5",
                "loan 1 0 1 1 = 4", "drop 0 1 0 = refused", "drop 0 2 -5 = 1", "drop 0 2 0 = 1",
                "drop 2 2 0 = no element", "drop -1 2 99 = no element");
    }

    private static void lookCalls() {
        DOC.holds("A LOOK: its number", "tell book 9;book 9; = 0", "look 1 5 0 3 = 0", "look 0 0 0 1 = 1",
                "look 1 0 0 402 = refused", "look 1 0 0 1 = 2", "look 2 0 4 0 = no element");
        DOC.holds("WAYS for a BOOK (1 without LOOKS)", "tell book 9;book 9; = 0", "ways 0 = 1", "look 0 0 0 1 = 0",
                "ways 0 = 0", "ways 1 = 1", "ways 2 = no element", "ways -1 = no element");
        DOC.holds("Of a LOOK: MAY, as bits (what 0), SURE (1; NONE: no one, or no WAYS)",
                "tell book 9;reader 1;reader 1 colour 1;reader 1; = 0", "look 0 0 0 1 = 0", "look 0 1 1 1 = 1",
                "whose 0 0 = 5", "whose 0 1 = -1", "whose 1 0 = 2", "whose 1 1 = 1", "look 0 2 3 1 = 2",
                "whose 1 0 = 0", "whose 1 1 = -1", "whose 3 0 = no element", "whose -1 0 = no element",
                "whose 0 2 = no element", "whose 0 -1 = no element");
        DOC.holds("LEAST (what 0), MOST (1) of a READER in a BOOK; NONE: no WAYS", "tell book 90;reader 9;reader 9; = 0",
                "loan 0 0 0 1 = 9", "loan 1 0 1 1 = 9", "look 0 2 0 6 = 0", "ends 0 0 0 = 1", "ends 0 0 1 = 6",
                "look 0 3 3 1 = 1", "ends 0 0 0 = -1", "ends 0 0 1 = -1", "ends 0 0 2 = no element",
                "ends 0 0 -1 = no element", "ends 2 0 0 = no element", "ends 0 1 0 = no element");
        DOC.holds("MOVED LOOKS of a BOOK, as bits by their numbers; 0: none, or there are WAYS",
                "tell book 9;book 9;reader 1; = 0", "look 0 0 0 1 = 0", "moved 0 = 0", "look 1 0 3 1 = 1", "moved 1 = 2",
                "moved 0 = 0", "look 1 0 0 1 = 2", "moved 1 = 2", "look 1 0 3 1 = 3", "moved 1 = 0",
                "moved 2 = no element");
    }

    private static void lastCalls() {
        DOC.holds("A WISH: how many there are", "tell reader 1; = 0", "wish 0 1 0 = 1", "wish 0 1 0 = 2",
                "wish 0 0 0 = refused", "wish 0 1 0 = 3", "wish -1 0 0 = no element");
        DOC.holds("The least WAITING (0 without WISHES); its ORDER is kept", "tell reader 1; = 0", "waiting = 0",
                "turn 0 = no element", "wish 0 5 0 = 1", "turn 0 = no element", "wish 0 1 0 = 2", "waiting = 1",
                "turn 0 = 1", "wish 0 2 0 = 3", "turn 1 = 0", "turn 2 = no element", "waiting = 4", "turn 1 = 2");
        DOC.holds("The i-th WISH (by when it was told) of the ORDER that is kept", "tell reader 1;reader 1; = 0",
                "wish 1 9 0 = 1", "wish 0 1 0 = 2", "wish 1 5 0 = 3", "waiting = 7", "turn 0 = 1", "turn 1 = 2",
                "turn 2 = 0", "turn 3 = no element", "turn -1 = no element");
        DOC.holds("A TALE tells a page of a BOOK's slip: true. False: not as told", "tell book 9; = 0",
                "tale 0 0 401 = true", "tale 0 0 402 = false", "settle 3 0 = 1", "tale 9 1 -1 = no element",
                "count 7 = 0");
        DOC.holds("Fewest looks for some TALES (what 0; NONE), the first BOOK (1; NONE: none, or 0 looks)",
                "tell book 9;book 9; = 0", "settle 3 0 = -1", "settle 3 1 = -1", "settle 1 0 = 0", "settle 1 1 = -1",
                "tale 0 1 1 = true", "settle 3 0 = 1", "settle 3 1 = 1");
        DOC.holds("IllegalArgumentException (behind that): bits are not 0 to 63", "settle -1 0 = bad argument",
                "settle 64 1 = bad argument", "settle 64 2 = no element", "settle 0 -1 = no element", "settle 63 0 = -1");
        DOC.holds("AN IMAGE is kept, in place of another one", TWO, "image = kept", "loan 0 0 0 1 = 5", "image = kept",
                "loan 0 0 1 1 = 5", "restore = true", "slip 0 0 = 6");
        DOC.holds("It is as the IMAGE again: true. False: there is none", TWO, "restore = false", "loan 0 0 0 1 = 5",
                "restore = false", "image = kept", "loan 0 0 1 1 = 5", "restore = true", "slip 0 0 = 6",
                "loan 0 0 1 1 = 5", "restore = true", "slip 0 0 = 6");
    }
}
