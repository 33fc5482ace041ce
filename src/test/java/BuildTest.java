/** Promises 1 to 6: a new object, letter, open, close, test, reset. */
public final class BuildTest {
    private static final Checks CHECKS = new Checks();

    public static void main(String[] args) {
        newObject();
        letterTakesItsCodes();
        letterTakesSix();
        openAnswersNumbers();
        openIsFullAtThree();
        openIsFullAtTwentyFour();
        closeGoesOutwards();
        testAnswersNumbers();
        testRefusesBeforeItIsFull();
        refusalsKeepTheName();
        resetKeepsNameAndPage();
        objectsAreApart();
        CHECKS.end();
    }

    private static void newObject() {
        VerdictPages pages = new VerdictPages();
        CHECKS.due("new: nodes", 0, pages.nodes());
        CHECKS.due("new: length", 0, pages.length());
        CHECKS.due("new: at(0)", -1, pages.at(0));
        CHECKS.due("new: kind(0)", -1, pages.kind(0));
        CHECKS.due("new: close", false, pages.close());
        CHECKS.due("new: test", 0, pages.test(0));
        CHECKS.due("new: no name begun", -1, pages.name(0, 0));
    }

    private static void letterTakesItsCodes() {
        for (int code = 0; code <= 65535; code++) {
            boolean plain = code >= 32 && code <= 126;
            if (code < 300 || code % 251 == 0 || code == 65535) {
                VerdictPages pages = new VerdictPages();
                CHECKS.due("letter " + code, plain, pages.letter((char) code));
                pages.test(0);
                CHECKS.due("letter " + code + ": name", plain ? code : -1, pages.name(0, 0));
                CHECKS.due("letter " + code + ": end", -1, pages.name(0, 1));
            }
        }
    }

    private static void letterTakesSix() {
        VerdictPages pages = new VerdictPages();
        for (char c : "~ a#\\~".toCharArray()) {
            CHECKS.due("letter of six", true, pages.letter(c));
        }
        CHECKS.due("seventh letter", false, pages.letter('x'));
        CHECKS.due("seventh letter, wrong too", false, pages.letter((char) 31));
        pages.test(0);
        CHECKS.due("six letters", "~ a#\\~", Checks.nameOf(pages, 0));
        CHECKS.due("a new name after it", true, pages.letter('x'));
        pages.open();
        CHECKS.due("one letter", "x", Checks.nameOf(pages, 1));
    }

    private static void openAnswersNumbers() {
        VerdictPages pages = new VerdictPages();
        CHECKS.due("open a", 0, Checks.open(pages, "a"));
        CHECKS.due("open b", 1, Checks.open(pages, "b"));
        pages.close();
        CHECKS.due("open c", 2, Checks.open(pages, "c"));
        CHECKS.due("open without a name", 3, pages.open());
        CHECKS.due("open: nodes", "0 6 'a'\n1 4 'b'\n1 6 'c'\n2 6 ''\n", Checks.tellNodes(pages));
    }

    private static void openIsFullAtThree() {
        VerdictPages pages = new VerdictPages();
        pages.open();
        pages.open();
        pages.open();
        CHECKS.due("a fourth open", -2, pages.open());
        CHECKS.due("nodes after it", 3, pages.nodes());
        CHECKS.due("test in the third", 3, pages.test(0));
        CHECKS.due("its depth", 3, pages.depth(3));
        pages.close();
        CHECKS.due("open after a close", 4, pages.open());
        CHECKS.due("its depth", 2, pages.depth(4));
        CHECKS.due("one more", -2, pages.open());
    }

    private static void openIsFullAtTwentyFour() {
        VerdictPages pages = new VerdictPages();
        for (int node = 0; node < 24; node++) {
            CHECKS.due("open one of 24", node, pages.open());
            CHECKS.due("close one of 24", true, pages.close());
        }
        CHECKS.due("a 25th, a suite", -2, pages.open());
        CHECKS.due("a 25th, a test", -2, pages.test(0));
        CHECKS.due("nodes", 24, pages.nodes());
        CHECKS.due("none is open", false, pages.close());
    }

    private static void closeGoesOutwards() {
        VerdictPages pages = new VerdictPages();
        CHECKS.due("close of none", false, pages.close());
        pages.open();
        pages.open();
        CHECKS.due("close inner", true, pages.close());
        CHECKS.due("inner is closed", 4, pages.kind(1));
        CHECKS.due("outer is open", 6, pages.kind(0));
        CHECKS.due("test in outer", 2, pages.test(0));
        CHECKS.due("its depth", 1, pages.depth(2));
        CHECKS.due("close outer", true, pages.close());
        CHECKS.due("outer is closed", 4, pages.kind(0));
        CHECKS.due("close of none again", false, pages.close());
        CHECKS.due("test at the top", 3, pages.test(0));
        CHECKS.due("its depth", 0, pages.depth(3));
    }

    private static void testAnswersNumbers() {
        VerdictPages pages = new VerdictPages();
        for (int result = 0; result <= 3; result++) {
            CHECKS.due("test " + result, result, Checks.test(pages, "t" + result, result));
        }
        CHECKS.due("tests", "0 0 't0'\n0 1 't1'\n0 2 't2'\n0 3 't3'\n", Checks.tellNodes(pages));
    }

    private static void testRefusesBeforeItIsFull() {
        VerdictPages pages = new VerdictPages();
        int[] wrong = {-1, 4, 5, 6, Integer.MIN_VALUE, Integer.MAX_VALUE};
        for (int result : wrong) {
            CHECKS.due("test " + result, -1, pages.test(result));
        }
        CHECKS.due("nodes", 0, pages.nodes());
        for (int node = 0; node < 24; node++) {
            CHECKS.due("test of 24", node, pages.test(node % 4));
        }
        for (int result : wrong) {
            CHECKS.due("full: test " + result, -1, pages.test(result));
        }
        for (int result = 0; result <= 3; result++) {
            CHECKS.due("full: test " + result, -2, pages.test(result));
        }
        CHECKS.due("nodes when full", 24, pages.nodes());
    }

    private static void refusalsKeepTheName() {
        VerdictPages pages = new VerdictPages();
        Checks.begin(pages, "kept");
        pages.test(4);
        CHECKS.due("test", 0, pages.test(1));
        CHECKS.due("name after BAD", "kept", Checks.nameOf(pages, 0));
        pages.open();
        pages.open();
        pages.open();
        Checks.begin(pages, "still");
        CHECKS.due("open at three", -2, pages.open());
        pages.close();
        pages.close();
        pages.close();
        CHECKS.due("open", 4, pages.open());
        CHECKS.due("name after FULL", "still", Checks.nameOf(pages, 4));
        for (int node = 5; node < 24; node++) {
            pages.test(0);
        }
        Checks.begin(pages, "over");
        CHECKS.due("open at 24", -2, pages.open());
        CHECKS.due("test at 24", -2, pages.test(0));
        pages.reset();
        pages.test(0);
        CHECKS.due("name after 24", "over", Checks.nameOf(pages, 0));
    }

    private static void resetKeepsNameAndPage() {
        VerdictPages pages = new VerdictPages();
        pages.reset();
        CHECKS.due("reset of none", 0, pages.nodes());
        Checks.open(pages, "s");
        Checks.test(pages, "t", 1);
        String page = Checks.writtenPageOf(pages);
        Checks.begin(pages, "begun");
        pages.reset();
        CHECKS.due("nodes", 0, pages.nodes());
        CHECKS.due("kind(0)", -1, pages.kind(0));
        CHECKS.due("depth(0)", -1, pages.depth(0));
        CHECKS.due("name(0, 0)", -1, pages.name(0, 0));
        CHECKS.due("close", false, pages.close());
        CHECKS.due("the page", page, Checks.pageOf(pages));
        CHECKS.due("test", 0, pages.test(2));
        CHECKS.due("nodes after reset", "0 2 'begun'\n", Checks.tellNodes(pages));
    }

    private static void objectsAreApart() {
        VerdictPages one = new VerdictPages();
        VerdictPages other = new VerdictPages();
        one.letter('a');
        one.test(0);
        one.letter('b');
        one.put('c');
        CHECKS.due("other: nodes", 0, other.nodes());
        CHECKS.due("other: length", 0, other.length());
        other.test(0);
        CHECKS.due("other: name", -1, other.name(0, 0));
    }
}
