/** The language of STOPS: what each law makes a reader do. */
public final class LawTest {
    private static final Check CHECK = new Check("LawTest");

    public static void main(String[] args) {
        truths();
        numbers();
        binding();
        wrapping();
        valuesOfPages();
        valuesOfTime();
        onlyThatHour();
        CHECK.end();
    }

    /** Whether a law without VALUES holds: a reader of pace 9 then reads one page in an hour. */
    private static void law(String law, boolean holds) {
        SlipRoom room = CHECK.roomOf("book 50; reader 9 stops " + law + ";");
        CHECK.due("pages by " + law, room.loan(0, 0, 0, 1), holds ? 1 : 9);
    }

    private static void truths() {
        law("0", false);
        law("1", true);
        law("2", true);
        law("0 - 1", true);
        law("not 0", true);
        law("not 7", false);
        law("not not 7", true);
        law("not not 7 = 1", false);
        law("(not not 7) = 1", true);
        law("not not not not not not 3", true);
        law("not not not not not 3", false);
        law("2 and 4", true);
        law("(2 and 4) = 1", true);
        law("2 and 0", false);
        law("0 and 2", false);
        law("0 or 0", false);
        law("(0 or 8) = 1", true);
        law("8 or 0", true);
        law("1 < 2", true);
        law("2 < 2", false);
        law("3 < 2", false);
        law("2 = 2", true);
        law("2 = 3", false);
        law("(1 < 2) = 1", true);
        law("(2 = 2) + (3 = 3) = 2", true);
    }

    private static void numbers() {
        law("7 - 2 - 1 = 4", true);
        law("7 - (2 - 1) = 6", true);
        law("7 + 2 * 3 = 13", true);
        law("(7 + 2) * 3 = 27", true);
        law("100 / 7 / 2 = 7", true);
        law("100 / 7 * 7 = 98", true);
        law("5 / 0 = 0", true);
        law("5 / 0 + 1 = 1", true);
        law("0 / 0", false);
        law("(0 - 7) / 2 = 0 - 3", true);
        law("7 / (0 - 2) = 0 - 3", true);
        law("(0 - 7) / (0 - 2) = 3", true);
        law("0007 = 7", true);
        law("9999 - 9998 = 1", true);
        law("9999 + 1 = 5000 * 2", true);
    }

    private static void binding() {
        law("1 or 0 and 0", true);
        law("(1 or 0) and 0", false);
        law("0 and 0 or 1", true);
        law("not 0 and 0", false);
        law("not (0 and 0)", true);
        law("not 1 or 1", true);
        law("not 1 = 2", true);
        law("not 0 + 1", false);
        law("(not 0) + 1 = 2", true);
        law("1 + 1 < 3 and 2 * 2 = 4", true);
        law("2 + 2 < 2 * 2", false);
        law("1 and not 0 and not 0", true);
        law("0 or not 1 or not 0", true);
    }

    private static void wrapping() {
        law("9999 * 9999 * 9999 = 9999 * 9999 * 9999", true);
        // 65536 * 32768 is 2 to the 31st
        String least = "(4096 * 16 * 4096 * 8)";
        law(least + " < 0", true);
        law(least + " - 1 < 0", false);
        law(least + " / (0 - 1) = " + least, true);
        law(least + " * 2 = 0", true);
        law(least + " + " + least + " = 0", true);
    }

    private static void pages(String text, int book, int from, int want) {
        SlipRoom room = CHECK.roomOf(text);
        CHECK.due("pages by " + text, room.loan(0, book, from, 1), want);
    }

    private static void valuesOfPages() {
        pages("book 50; reader 60 stops page = 13;", 0, 0, 13);
        pages("book 50; reader 60 stops left = 13;", 0, 0, 37);
        pages("book 50; reader 60 stops left = 0;", 0, 0, 50);
        pages("book 50 parts 7; reader 60 stops into = 7;", 0, 0, 7);
        pages("book 50 parts 7; reader 60 stops not page < 8 and into = 1;", 0, 0, 8);
        pages("book 50 parts 1; reader 60 stops into = 2;", 0, 0, 50);
        pages("book 50; reader 60 stops into = 9;", 0, 0, 9);
        pages("book 50; reader 60 stops read = 21;", 0, 0, 21);
        pages("book 50; book 50; reader 60 stops book = 1;", 0, 0, 50);
        pages("book 50; book 50; reader 60 stops book = 1;", 1, 0, 1);

        SlipRoom later = CHECK.roomOf("book 50; reader 4 back 1 stops read = 6;");
        CHECK.due("first loan", later.loan(0, 0, 0, 1), 4);
        CHECK.due("read is of this loan alone", later.loan(0, 0, 1, 2), 8 - 2);
        CHECK.due("its begin", later.lent(1, 4), 4);

        SlipRoom ends = CHECK.roomOf("book 50; reader 9 ends stops read = 3 or left = 0;");
        CHECK.due("the last page ahead is not counted and stops nothing", ends.loan(0, 0, 0, 1), 3);
    }

    private static void valuesOfTime() {
        pages("book 50; reader 60 stops hour = 23;", 0, 23, 1);
        pages("book 50; reader 60 stops hour = 23;", 0, 24, 50);
        pages("book 50; reader 60 stops hour = 0;", 0, 24, 1);
        pages("book 50; reader 60 stops hour = 23;", 0, 8759, 1);
        pages("book 50; reader 60 stops day = 364;", 0, 8759, 1);
        pages("book 50; reader 60 stops day = 364;", 0, 8735, 50);
        pages("book 50; reader 60 stops day = 1;", 0, 24, 1);
        pages("book 50; reader 60 stops day = 0;", 0, 23, 1);
    }

    private static void onlyThatHour() {
        SlipRoom room = CHECK.roomOf("book 50; reader 5 stops page = 7 or page = 8;");
        CHECK.due("hours of 5, 2, 1, 5", room.loan(0, 0, 0, 4), 13);
        SlipRoom plain = CHECK.roomOf("book 50; reader 5;");
        CHECK.due("never without a law", plain.loan(0, 0, 0, 4), 20);
        SlipRoom two = CHECK.roomOf("book 50; reader 5 stops 1; reader 6; reader 7 stops page = 2;");
        CHECK.due("the first one's law", two.loan(0, 0, 0, 2), 2);
        CHECK.due("the second one has none", two.loan(1, 0, 2, 2), 12);
        CHECK.due("the third one's law", two.loan(2, 0, 4, 2), 9);
    }
}
