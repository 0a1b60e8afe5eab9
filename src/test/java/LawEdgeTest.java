/** Boundary cases of what the laws of STOPS answer: VALUES, arithmetic, truth, and when one reads on. */
public final class LawEdgeTest {
    private static final Edge EDGE = new Edge("LawEdgeTest");
    /** The least int, 2 to the 31st: 65536 * 32768. */
    private static final String LEAST = "(4096*16*4096*8)";
    private static final String GREATEST = "(4096*16*4096*8-1)";

    public static void main(String[] args) {
        page();
        left();
        into();
        read();
        hourAndDay();
        book();
        wrapping();
        dividing();
        truth();
        fromTheLeft();
        fullDepth();
        whenOneStops();
        EDGE.end();
    }

    /** What a reader reads in the first hours of a book by a law. */
    private static void reads(String name, String book, String law, int pace, int hours, int pages) {
        EDGE.holds(name, "tell " + book + "; reader " + pace + " stops " + law + "; = 0",
                "loan 0 0 0 " + hours + " = " + pages);
    }

    private static void law(String name, String law, boolean holds) {
        reads(name, "book 9", law, 9, 1, holds ? 1 : 9);
        reads(name + ", 'not' of it", "book 9", "not (" + law + ")", 9, 1, holds ? 9 : 1);
    }

    private static void page() {
        reads("'page': the first", "book 9", "page = 1", 9, 1, 1);
        reads("'page': none is 0", "book 9", "page = 0", 9, 1, 9);
        reads("'page': the last of the thickest", "book 400", "page = 400", 60, 7, 400);
        reads("'page': the last but one", "book 400", "page = 399", 60, 7, 399);
        reads("'page': none behind the last", "book 9", "9 < page", 9, 1, 9);
        reads("'page': of a book of one", "book 1", "page = 1", 9, 1, 1);
    }

    private static void left() {
        reads("'left': behind the first page", "book 9", "left = 8", 9, 1, 1);
        reads("'left': 1 behind the last but one", "book 9", "left = 1", 9, 1, 8);
        reads("'left': 0 behind the last", "book 9", "left = 0", 9, 2, 9);
        reads("'left': never below 0", "book 9", "left < 0", 9, 1, 9);
        reads("'left': 399 is the most", "book 400", "left = 399", 60, 1, 1);
        reads("'left': 0 of a book of one", "book 1", "left = 0", 9, 1, 1);
    }

    private static void into() {
        reads("'into': 1 at a book's begin", "book 9 parts 4", "into = 1", 9, 1, 1);
        reads("'into': at a PART's end", "book 9 parts 4", "into = 4", 9, 1, 4);
        reads("'into': never more than a PART has", "book 9 parts 4", "4 < into", 9, 1, 9);
        reads("'into': 1 again in the next PART", "book 9 parts 4", "4 < page and into = 1", 9, 1, 5);
        reads("'into': 1 in a last PART of one page", "book 9 parts 4", "8 < page and into = 1", 8, 2, 9);
        reads("'into': a shorter last PART has no third page", "book 10 parts 4", "8 < page and into = 3", 9, 1, 9);
        reads("'into': always 1 in PARTS of one page", "book 9 parts 1", "1 < into", 9, 1, 9);
        reads("'into': the page in a PART longer than the book", "book 9 parts 400", "into = 9", 9, 2, 9);
        reads("'into': the page in a PART as long as the book", "book 9 parts 9", "into = 8", 9, 1, 8);
        reads("'into': the page without PARTS", "book 9", "not into = page", 9, 1, 9);
        reads("'into': 400 without PARTS", "book 400", "into = 400", 60, 7, 400);
        reads("'into': never 0", "book 9 parts 3", "into = 0", 9, 1, 9);
    }

    private static void read() {
        reads("'read': 1 at the first page", "book 9", "read = 1", 9, 1, 1);
        reads("'read': counts on in the next HOUR", "book 30", "read = 7", 5, 3, 12);
        EDGE.holds("'read': anew in the next LOAN", "tell book 30; reader 5 stops read = 3; = 0", "loan 0 0 0 1 = 3",
                "loan 0 0 1 1 = 3", "lent 1 4 = 4", "slip 0 0 = 7");
        EDGE.holds("'read': pages READ before count again", "tell book 30; reader 5 back 2 stops read = 3; = 0",
                "loan 0 0 0 1 = 3", "loan 0 0 1 1 = 3", "lent 1 4 = 2", "slip 0 0 = 5");
        EDGE.holds("'read': the last page ahead, by ENDS, is not counted",
                "tell book 30; reader 5 ends stops read = 3; = 0", "loan 0 0 0 1 = 3", "read 0 0 0 = 4");
        reads("'read': never 0", "book 9", "read = 0", 9, 1, 9);
    }

    private static void hourAndDay() {
        String hour = "tell book 400; reader 9 stops hour = ";
        EDGE.holds("'hour': 0 at the first", hour + "0; = 0", "loan 0 0 0 1 = 1");
        EDGE.holds("'hour': 23 at the day's last", hour + "23; = 0", "loan 0 0 23 1 = 1");
        EDGE.holds("'hour': 0 again at the next day's first", hour + "0; = 0", "loan 0 0 23 2 = 10",
                "loan 0 0 48 1 = 1");
        EDGE.holds("'hour': never 24", hour + "24; = 0", "loan 0 0 0 24 = 216", "loan 0 0 24 1 = 9");
        EDGE.holds("'hour': 23 at the year's last", hour + "23; = 0", "loan 0 0 8758 2 = 10");
        String day = "tell book 400; reader 9 stops day = ";
        EDGE.holds("'day': 0 up to HOUR 23", day + "0; = 0", "loan 0 0 22 4 = 20");
        EDGE.holds("'day': 1 from HOUR 24 to 47", day + "1; = 0", "loan 0 0 23 2 = 10", "loan 0 0 47 2 = 10");
        EDGE.holds("'day': 364 at the last", day + "364; = 0", "loan 0 0 8735 2 = 10", "loan 0 0 8759 1 = 1");
        EDGE.holds("'day': never 365", day + "365; = 0", "loan 0 0 8759 1 = 9");
    }

    private static void book() {
        String books = "tell " + "book 9;".repeat(10) + "reader 9 stops book = ";
        EDGE.holds("'book': the first is 0", books + "0; = 0", "loan 0 0 0 1 = 1", "loan 0 1 1 1 = 9");
        EDGE.holds("'book': the tenth is 9", books + "9; = 0", "loan 0 9 0 1 = 1", "loan 0 8 1 1 = 9");
        EDGE.holds("'book': none is 10", books + "10; = 0", "loan 0 9 0 1 = 9");
    }

    private static void wrapping() {
        law("wrap: 2 to the 31st is the least int", LEAST + " < 0", true);
        law("wrap: one less is the greatest", LEAST + " - 1 = " + GREATEST, true);
        law("wrap: the greatest is above 0", "0 < " + GREATEST, true);
        law("wrap: the greatest and 1", GREATEST + " + 1 = " + LEAST, true);
        law("wrap: the least twice", LEAST + " + " + LEAST, false);
        law("wrap: the least by 2", LEAST + " * 2", false);
        law("wrap: 0 less the least", "0 - " + LEAST + " = " + LEAST, true);
        law("wrap: the greatest by itself", GREATEST + " * " + GREATEST + " = 1", true);
        law("wrap: 2 to the 32nd", "4096*16*4096*16", false);
        law("wrap: 9999 by 9999 by 9999", "9999*9999*9999 = 0 - 1027*1000*1000 - 349*1000 - 969", true);
        law("wrap: tests are of ints", LEAST + " < " + GREATEST, true);
        law("wrap: and not of what is left of them", GREATEST + " < " + LEAST, false);
    }

    private static void dividing() {
        law("/: cut down", "7 / 2 = 3", true);
        law("/: cut to 0 below 0 too", "(0 - 7) / 2 = 0 - 3", true);
        law("/: by what is below 0", "7 / (0 - 2) = 0 - 3", true);
        law("/: both below 0", "(0 - 7) / (0 - 2) = 3", true);
        law("/: less than one", "1 / 2", false);
        law("/: less than one below 0", "(0 - 1) / 2", false);
        law("/: by 0", "7 / 0", false);
        law("/: by 0, and 1", "7 / 0 + 1 = 1", true);
        law("/: 0 by 0", "0 / 0 = 0", true);
        law("/: by what comes to 0", "7 / (3 - 3) = 0", true);
        law("/: by 0 on the left of a /", "7 / 0 / 0", false);
        law("/: the least by -1", LEAST + " / (0 - 1) = " + LEAST, true);
        law("/: the greatest by -1", GREATEST + " / (0 - 1) = " + LEAST + " + 1", true);
        reads("/: by a VALUE that is 0", "book 9", "9 / left = 9", 9, 1, 8);
        reads("/: by 0 behind the last page", "book 9", "left = 0 and 9 / left = 0", 8, 2, 9);
    }

    private static void truth() {
        law("what isn't 0 holds: 1", "1", true);
        law("what isn't 0 holds: 9999", "9999", true);
        law("what isn't 0 holds: -1", "0 - 1", true);
        law("what isn't 0 holds: the least", LEAST, true);
        law("0 doesn't", "0", false);
        law("a test is 1", "(1 < 2) = 1 and (2 = 2) = 1", true);
        law("or 0", "(2 < 1) = 0 and (2 = 1) = 0", true);
        law("'not' is 1", "(not 0) = 1", true);
        law("or 0", "(not 7) = 0", true);
        law("'not' twice is 1 of 7", "(not not 7) = 1", true);
        law("'not' six times is 1 of 7", "(not not not not not not 7) = 1", true);
        law("'and' is 1 of 2 and 4, which share no bit", "(2 and 4) = 1", true);
        law("'and' is 0 of 0 on the left", "(0 and 4) = 0", true);
        law("'and' is 0 of 0 on the right", "(4 and 0) = 0", true);
        law("'or' is 1 of 2 or 4", "(2 or 4) = 1", true);
        law("'or' is 1 of 0 or 4", "(0 or 4) = 1", true);
        law("'or' is 1 of 4 or 0", "(4 or 0) = 1", true);
        law("'or' is 0 of 0 or 0", "(0 or 0) = 0", true);
        law("'<' of like ones", "5 < 5", false);
        law("'<' of one less", "4 < 5", true);
        law("'=' of one less", "4 = 5", false);
        law("'<' below 0", "0 - 5 < 0 - 4", true);
    }

    private static void fromTheLeft() {
        law("-: from the left", "9 - 4 - 2 = 3", true);
        law("- and +: from the left", "9 - 4 + 2 = 7", true);
        law("/: from the left", "80 / 4 / 2 = 10", true);
        law("/ and *: from the left", "9 / 2 * 2 = 8", true);
        law("* and /: from the left", "2 * 9 / 4 = 4", true);
        law("* ahead of +", "1 + 2 * 3 = 7", true);
        law("+ ahead of <", "1 < 0 + 2", true);
        law("< ahead of 'not'", "not 2 < 1", true);
        law("'not' ahead of 'and'", "not 0 and 0", false);
        law("'and' ahead of 'or'", "1 or 1 and 0", true);
        law("'and' ahead of 'or' on the left too", "0 and 1 or 1", true);
        law("parentheses ahead of all", "(1 or 1) and 0", false);
    }

    private static void fullDepth() {
        String level = "0 or 1 and not 1 < 0 + 1 * (";
        reads("six EXPRS deep, all operations open: 1", "book 9",
                level.repeat(5) + "1" + ")".repeat(5), 9, 1, deep(1) != 0 ? 1 : 9);
        reads("six EXPRS deep, all operations open: 2", "book 9",
                level.repeat(5) + "2" + ")".repeat(5), 9, 1, deep(2) != 0 ? 1 : 9);
        String right = "1 - (";
        reads("six EXPRS deep, from the right", "book 9", right.repeat(5) + "1" + ")".repeat(5) + " = 0", 9, 1, 1);
        reads("a law as long as the tape", "book 9", "1" + "-1+1".repeat(165) + "=1", 9, 1, 1);
        reads("a law as long as the tape that never holds", "book 9", "1" + "-1+1".repeat(165) + "=0", 9, 1, 9);
    }

    /** What the law of fullDepth() is, told in Java. */
    private static int deep(int innermost) {
        int value = innermost;
        for (int i = 0; i < 5; i++) {
            value = 1 < value ? 0 : 1;
        }
        return value;
    }

    private static void whenOneStops() {
        reads("STOPS: always, a page each HOUR", "book 9", "1", 9, 5, 5);
        reads("STOPS: never by a law", "book 400", "0", 60, 1, 60);
        reads("STOPS: at PACE's last page nothing is lost", "book 30", "page = 5", 5, 2, 10);
        reads("STOPS: the next HOUR goes on", "book 30", "page = 3", 5, 2, 8);
        reads("STOPS: behind the last page", "book 9", "page = 9", 9, 5, 9);
        reads("STOPS: no page, no law to ask", "book 1", "1", 9, 24, 1);
        EDGE.holds("STOPS: not asked behind the last page that ENDS reads first",
                "tell book 30; reader 5 ends stops left = 0; = 0", "loan 0 0 0 1 = 5");
        EDGE.holds("STOPS: each READER's own", "tell book 30; reader 9 stops page = 2; reader 9; "
                + "reader 9 stops page = 4; = 0", "loan 0 0 0 1 = 2", "loan 1 0 1 1 = 9", "loan 2 0 2 1 = 4");
    }
}
