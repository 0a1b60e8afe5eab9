/** Promises 15 to 19: looks, ways, whose, ends, moved. */
public final class LookTest {
    private static final Check CHECK = new Check("LookTest");

    public static void main(String[] args) {
        looksAreCounted();
        looksRefused();
        sixOfABook();
        withoutLooks();
        coloursCount();
        firstLook();
        lentAheadOfTheHour();
        nextLook();
        backByLoans();
        oneHour();
        toldInAnyOrder();
        mayAndSure();
        leastAndMost();
        movedLooks();
        movedByNumbers();
        allWays();
        fullRows();
        noSuch();
        CHECK.end();
    }

    private static void looksAreCounted() {
        SlipRoom room = CHECK.roomOf("book 9; book 9; reader 1;");
        CHECK.due("the first", room.look(1, 0, 0, 1), 0);
        CHECK.due("the second", room.look(0, 8759, 3, 401), 1);
        CHECK.due("looks", room.count(3), 2);
    }

    private static void refused(SlipRoom room, int book, int hour, int colour, int page) {
        int before = room.count(10);
        int looks = room.count(3);
        String call = "look(" + book + ", " + hour + ", " + colour + ", " + page + ")";
        CHECK.due(call, room.look(book, hour, colour, page), -1);
        CHECK.due("STATUS 3 behind " + call, room.count(10), before + 1);
        CHECK.due("looks behind " + call, room.count(3), looks);
    }

    private static void looksRefused() {
        SlipRoom room = CHECK.roomOf("book 9; reader 1;");
        refused(room, 0, -1, 0, 1);
        refused(room, 0, 8760, 0, 1);
        refused(room, 0, 0, -1, 1);
        refused(room, 0, 0, 4, 1);
        refused(room, 0, 0, 0, 0);
        refused(room, 0, 0, 0, 402);
        refused(room, 0, Integer.MIN_VALUE, Integer.MAX_VALUE, Integer.MIN_VALUE);
    }

    private static void sixOfABook() {
        SlipRoom room = CHECK.roomOf("book 9; book 9; book 9; book 9; book 9; reader 1;");
        for (int book = 0; book < 4; book++) {
            for (int i = 0; i < 6; i++) {
                CHECK.due("look " + i + " of " + book, room.look(book, i, 0, 1), book * 6 + i);
            }
            refused(room, book, 7, 0, 1);
        }
        refused(room, 4, 7, 0, 1);
        CHECK.due("ways of 4", room.ways(4), 1);
        CHECK.due("ways of 3", room.ways(3), 1);
        CHECK.due("whose the last one is", room.whose(23, 1), 0);
    }

    private static void withoutLooks() {
        SlipRoom room = CHECK.roomOf("book 9; reader 1; reader 2;");
        CHECK.due("ways", room.ways(0), 1);
        CHECK.due("least", room.ends(1, 0, 0), 1);
        CHECK.due("most", room.ends(1, 0, 1), 1);
        CHECK.due("moved", room.moved(0), 0);
        SlipRoom alone = CHECK.roomOf("book 9;");
        CHECK.due("ways without readers", alone.ways(0), 1);
        alone.look(0, 0, 0, 1);
        CHECK.due("ways of a look without readers", alone.ways(0), 0);
        CHECK.due("moved", alone.moved(0), 1);
        CHECK.due("whose", alone.whose(0, 0), 0);
    }

    private static void coloursCount() {
        SlipRoom room = CHECK.roomOf("book 9; reader 1; reader 1 colour 2; reader 1 colour 2; reader 1 colour 3;");
        room.look(0, 0, 2, 1);
        CHECK.due("ways", room.ways(0), 2);
        CHECK.due("may", room.whose(0, 0), 6);
        CHECK.due("sure", room.whose(0, 1), -1);
        room.look(0, 1, 3, 1);
        CHECK.due("ways", room.ways(0), 2);
        CHECK.due("may", room.whose(1, 0), 8);
        CHECK.due("sure", room.whose(1, 1), 3);
        room.look(0, 1, 1, 1);
        CHECK.due("nobody's colour", room.ways(0), 0);
        CHECK.due("moved", room.moved(0), 4);
    }

    private static void firstLook() {
        SlipRoom room = CHECK.roomOf("book 9; book 50; book 50; book 50; reader 5;");
        room.loan(0, 1, 3, 2);
        room.look(1, 5, 0, 11);
        CHECK.due("page less 1 is 5 by 2", room.ways(1), 1);
        room.loan(0, 2, 5, 2);
        room.look(2, 7, 0, 12);
        CHECK.due("page less 1 is above", room.ways(2), 0);
        room.look(3, 0, 0, 1);
        CHECK.due("page 1 without any loan", room.ways(3), 1);
        room.look(0, 9, 0, 2);
        CHECK.due("page 2 without any loan", room.ways(0), 0);
    }

    private static void lentAheadOfTheHour() {
        SlipRoom room = CHECK.roomOf("book 50; book 50; book 50; reader 5;");
        room.loan(0, 0, 10, 4);
        room.loan(0, 1, 14, 4);
        room.loan(0, 2, 18, 2);
        room.loan(0, 2, 22, 2);
        room.look(0, 12, 0, 11);
        CHECK.due("two hours of the loan are ahead", room.ways(0), 1);
        room.look(1, 16, 0, 12);
        CHECK.due("no more than two are ahead", room.ways(1), 0);
        room.look(2, 23, 0, 16);
        CHECK.due("two loans, three hours", room.ways(2), 1);
        room.look(2, 18, 0, 2);
        CHECK.due("the loan's first hour is not ahead of it", room.ways(2), 0);
        CHECK.due("its look is moved", room.moved(2), 8);
    }

    private static void nextLook() {
        SlipRoom room = CHECK.roomOf("book 50; book 50; book 50; book 50; reader 5;");
        for (int book = 0; book < 4; book++) {
            room.loan(0, book, 10 * book, 8);
        }
        room.look(0, 2, 0, 4);
        room.look(0, 5, 0, 19);
        CHECK.due("at most 4 and 5 by 3", room.ways(0), 1);
        room.look(1, 12, 0, 4);
        room.look(1, 15, 0, 20);
        CHECK.due("above 4 and 5 by 3", room.ways(1), 0);
        room.look(2, 22, 0, 4);
        room.look(2, 25, 0, 4);
        CHECK.due("the same page", room.ways(2), 1);
        room.look(3, 32, 0, 4);
        room.look(3, 35, 0, 3);
        CHECK.due("less", room.ways(3), 0);
        CHECK.due("moved", room.moved(3), 192);
    }

    private static void backByLoans() {
        SlipRoom room = CHECK.roomOf("book 50; book 50; book 50; book 50; reader 9 back 2;");
        for (int book = 0; book < 4; book++) {
            room.loan(0, book, 10 * book, 1);
            room.loan(0, book, 10 * book + 1, 1);
            room.loan(0, book, 10 * book + 3, 1);
        }
        room.look(0, 1, 0, 10);
        room.look(0, 4, 0, 6);
        CHECK.due("two loans between, the first at its hour", room.ways(0), 1);
        room.look(1, 11, 0, 10);
        room.look(1, 14, 0, 5);
        CHECK.due("less by 5", room.ways(1), 0);
        room.look(2, 21, 0, 10);
        room.look(2, 23, 0, 8);
        CHECK.due("one loan between, the second one's hour not counted", room.ways(2), 1);
        room.look(3, 31, 0, 10);
        room.look(3, 33, 0, 7);
        CHECK.due("less by 3", room.ways(3), 0);
    }

    private static void oneHour() {
        SlipRoom room = CHECK.roomOf("book 50; reader 9; reader 9; reader 9;");
        room.look(0, 7, 0, 1);
        room.look(0, 7, 0, 1);
        CHECK.due("two of one hour", room.ways(0), 6);
        room.look(0, 7, 0, 1);
        CHECK.due("three of one hour", room.ways(0), 6);
        room.look(0, 7, 0, 1);
        CHECK.due("four of one hour", room.ways(0), 0);
        CHECK.due("any of them", room.moved(0), 15);
    }

    private static void toldInAnyOrder() {
        SlipRoom room = CHECK.roomOf("book 50; reader 5; reader 1 colour 1;");
        room.loan(0, 0, 0, 9);
        CHECK.due("told first", room.look(0, 8, 0, 29), 0);
        CHECK.due("told then", room.look(0, 2, 0, 9), 1);
        CHECK.due("told last", room.look(0, 5, 0, 20), 2);
        CHECK.due("ways", room.ways(0), 1);
        CHECK.due("the last by its hour", room.ends(0, 0, 1), 29);
        CHECK.due("and in all ways", room.ends(0, 0, 0), 29);
        room.look(0, 6, 0, 19);
        CHECK.due("back without BACK", room.ways(0), 0);
        CHECK.due("either one", room.moved(0), 12);
    }

    private static void mayAndSure() {
        SlipRoom room = CHECK.roomOf("book 90; reader 10; reader 10; reader 10;");
        room.loan(0, 0, 0, 3);
        room.loan(1, 0, 3, 2);
        room.loan(2, 0, 5, 1);
        room.look(0, 6, 0, 31);
        CHECK.due("only one came so far", room.whose(0, 0), 1);
        CHECK.due("sure", room.whose(0, 1), 0);
        room.look(0, 6, 0, 21);
        CHECK.due("0 is taken by the other of that hour", room.whose(1, 0), 2);
        CHECK.due("sure", room.whose(1, 1), 1);
        room.look(0, 7, 0, 11);
        CHECK.due("may", room.whose(2, 0), 4);
        room.look(0, 8, 0, 1);
        CHECK.due("none of them goes back", room.whose(3, 0), 0);
        CHECK.due("no ways", room.whose(3, 1), -1);
        CHECK.due("nor of the others", room.whose(0, 0), 0);
        CHECK.due("nor of the others", room.whose(0, 1), -1);
        CHECK.due("any one left out frees a reader", room.moved(0), 15);
    }

    private static void leastAndMost() {
        SlipRoom room = CHECK.roomOf("book 90; reader 10; reader 10; reader 10 colour 1;");
        room.loan(0, 0, 0, 3);
        room.loan(1, 0, 3, 3);
        room.look(0, 6, 0, 5);
        room.look(0, 7, 0, 5);
        room.look(0, 9, 0, 5);
        CHECK.due("ways", room.ways(0), 8);
        CHECK.due("least: none", room.ends(0, 0, 0), 1);
        CHECK.due("most", room.ends(0, 0, 1), 5);
        CHECK.due("of another colour, least", room.ends(2, 0, 0), 1);
        CHECK.due("of another colour, most", room.ends(2, 0, 1), 1);
        room.look(0, 10, 0, 7);
        CHECK.due("one has all the others, one has that", room.ways(0), 2);
        CHECK.due("least", room.ends(0, 0, 0), 5);
        CHECK.due("most", room.ends(0, 0, 1), 7);
        room.look(0, 10, 0, 8);
        CHECK.due("least without ways", room.ends(0, 0, 0), -1);
        CHECK.due("most without ways", room.ends(2, 0, 1), -1);
        SlipRoom two = CHECK.roomOf("book 90; reader 10; reader 10;");
        two.loan(0, 0, 0, 3);
        two.loan(1, 0, 3, 3);
        two.look(0, 6, 0, 9);
        two.look(0, 6, 0, 4);
        CHECK.due("least", two.ends(0, 0, 0), 4);
        CHECK.due("most", two.ends(0, 0, 1), 9);
        two.look(0, 8, 0, 4);
        CHECK.due("least of who has 4 twice", two.ends(1, 0, 0), 4);
        CHECK.due("most of who has 9", two.ends(1, 0, 1), 9);
    }

    private static void movedLooks() {
        SlipRoom room = CHECK.roomOf("book 90; reader 10;");
        room.loan(0, 0, 0, 9);
        room.look(0, 1, 0, 50);
        CHECK.due("ways", room.ways(0), 0);
        CHECK.due("the only one", room.moved(0), 1);
        room.look(0, 2, 0, 60);
        CHECK.due("neither alone is enough", room.moved(0), 0);
        CHECK.due("ways", room.ways(0), 0);
    }

    private static void movedByNumbers() {
        SlipRoom room = CHECK.roomOf("book 90; book 90; reader 10;");
        room.loan(0, 0, 0, 9);
        room.look(1, 0, 0, 1);
        room.look(0, 5, 0, 20);
        room.look(1, 0, 0, 1);
        room.look(0, 3, 0, 31);
        room.look(1, 1, 0, 1);
        CHECK.due("book 0", room.moved(0), 8 + 2);
        CHECK.due("book 1", room.moved(1), 4 + 1);
    }

    private static void allWays() {
        SlipRoom room = CHECK.roomOf("book 90;" + "reader 60;".repeat(8));
        for (int i = 0; i < 6; i++) {
            room.look(0, i, 0, 1);
        }
        CHECK.due("8 to the 6th", room.ways(0), 262144);
        CHECK.due("all may", room.whose(5, 0), 255);
        CHECK.due("none is sure", room.whose(5, 1), -1);
        SlipRoom apart = CHECK.roomOf("book 90;" + "reader 60;".repeat(8));
        for (int i = 0; i < 6; i++) {
            apart.look(0, 9, 0, 1);
        }
        CHECK.due("8 by 7 by 6 by 5 by 4 by 3", apart.ways(0), 20160);
    }

    private static void fullRows() {
        SlipRoom room = CHECK.roomOf("book 90;" + "reader 1 colour 1;".repeat(6) + "reader 10; reader 10;");
        room.loan(7, 0, 0, 3);
        room.loan(6, 0, 3, 2);
        for (int i = 0; i < 6; i++) {
            room.look(0, 20 - i, i == 3 ? 1 : 0, i < 3 ? 30 : i == 3 ? 1 : 21);
        }
        CHECK.due("only 7 came to 30, so that he was not at 21 behind his loan", room.ways(0), 6);
        CHECK.due("whose 30 is", room.whose(0, 1), 7);
        CHECK.due("whose 21 may be", room.whose(5, 0), 64);
        CHECK.due("whose the coloured one may be", room.whose(3, 0), 63);
        CHECK.due("least of 7", room.ends(7, 0, 0), 30);
        CHECK.due("most of 6", room.ends(6, 0, 1), 21);
        CHECK.due("least of 6", room.ends(6, 0, 0), 21);
        CHECK.due("moved", room.moved(0), 0);
    }

    private static void noSuch() {
        SlipRoom room = CHECK.roomOf("book 9; reader 1;");
        room.look(0, 1, 0, 1);
        CHECK.noElement("look(1, 0, 0, 1)", () -> room.look(1, 0, 0, 1));
        CHECK.noElement("look(-1, -1, 9, 0)", () -> room.look(-1, -1, 9, 0));
        CHECK.due("STATUS 3 counts no exceptions", room.count(10), 0);
        CHECK.noElement("ways(1)", () -> room.ways(1));
        CHECK.noElement("ways(-1)", () -> room.ways(-1));
        CHECK.noElement("whose(1, 0)", () -> room.whose(1, 0));
        CHECK.noElement("whose(-1, 0)", () -> room.whose(-1, 0));
        CHECK.noElement("whose(0, 2)", () -> room.whose(0, 2));
        CHECK.noElement("whose(0, -1)", () -> room.whose(0, -1));
        CHECK.noElement("ends(1, 0, 0)", () -> room.ends(1, 0, 0));
        CHECK.noElement("ends(-1, 0, 0)", () -> room.ends(-1, 0, 0));
        CHECK.noElement("ends(0, 1, 0)", () -> room.ends(0, 1, 0));
        CHECK.noElement("ends(0, 0, 2)", () -> room.ends(0, 0, 2));
        CHECK.noElement("ends(0, 0, -1)", () -> room.ends(0, 0, -1));
        for (int wrong : new int[] {-1, 1, 8, 10, Integer.MIN_VALUE, Integer.MAX_VALUE}) {
            CHECK.noElement("look, book " + wrong, () -> room.look(wrong, 0, 0, 1));
            CHECK.noElement("ways, book " + wrong, () -> room.ways(wrong));
            CHECK.noElement("whose, look " + wrong, () -> room.whose(wrong, 0));
            CHECK.noElement("ends, reader " + wrong, () -> room.ends(wrong, 0, 0));
            CHECK.noElement("ends, book " + wrong, () -> room.ends(0, wrong, 0));
            CHECK.noElement("moved, book " + wrong, () -> room.moved(wrong));
        }
        CHECK.noElement("moved(1)", () -> room.moved(1));
        CHECK.noElement("moved(-1)", () -> room.moved(-1));
    }
}
