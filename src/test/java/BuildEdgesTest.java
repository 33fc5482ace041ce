import java.util.function.Consumer;

/** The sentences of promises 1 to 6 that name an edge, a test for each. */
public final class BuildEdgesTest {
    private static final Checks CHECKS = new Checks();
    private static final int[] NO_RESULTS = {-1, 4, 5, 6, 7};

    public static void main(String[] args) {
        CHECKS.run(
            BuildEdgesTest::newReport,
            BuildEdgesTest::newName,
            BuildEdgesTest::newPage,
            BuildEdgesTest::letterAddsAtTheEnd,
            BuildEdgesTest::letterTooSmall,
            BuildEdgesTest::letterTooLarge,
            BuildEdgesTest::letterBehindSix,
            BuildEdgesTest::letterRefusedChangesNothing,
            BuildEdgesTest::openAddsToTheInnermostRow,
            BuildEdgesTest::openEmptiesTheName,
            BuildEdgesTest::openAt24Nodes,
            BuildEdgesTest::openAtThreeOpen,
            BuildEdgesTest::openRefusedChangesNothing,
            BuildEdgesTest::closeOfTheLastOpen,
            BuildEdgesTest::closeWhenNoneIsOpen,
            BuildEdgesTest::closeOfNoneChangesNothing,
            BuildEdgesTest::testAddsToTheInnermostRow,
            BuildEdgesTest::testEmptiesTheName,
            BuildEdgesTest::testOfNoResult,
            BuildEdgesTest::testAt24Nodes,
            BuildEdgesTest::testIsBadBeforeItIsFull,
            BuildEdgesTest::testRefusedChangesNothing,
            BuildEdgesTest::resetLeavesNoNodes,
            BuildEdgesTest::resetLeavesNoOpenSuite,
            BuildEdgesTest::resetKeepsTheName,
            BuildEdgesTest::resetKeepsThePage);
        CHECKS.end();
    }

    private static void newReport() {
        CHECKS.about("Promise 1: A report without nodes");
        VerdictPages pages = new VerdictPages();
        CHECKS.due("nodes", 0, pages.nodes());
        CHECKS.due("kind(0)", -1, pages.kind(0));
        CHECKS.due("depth(0)", -1, pages.depth(0));
        CHECKS.due("name(0, 0)", -1, pages.name(0, 0));
        CHECKS.due("attempts(0)", -1, pages.attempts(0));
        CHECKS.due("flaky(0)", false, pages.flaky(0));
        CHECKS.due("close", false, pages.close());
        CHECKS.due("write", "TAP version 14\n1..0\n".length(), pages.write());
    }

    private static void newName() {
        CHECKS.about("Promise 1: no name begun");
        CHECKS.due("the first test's name", -1, nameOfNewTest(new VerdictPages()));
        VerdictPages pages = new VerdictPages();
        CHECKS.due("open", 0, pages.open());
        CHECKS.due("the first suite's name", -1, pages.name(0, 0));
        VerdictPages six = new VerdictPages();
        for (int i = 0; i < 6; i++) {
            CHECKS.due("room for letter " + i, true, six.letter('a'));
        }
    }

    private static int nameOfNewTest(VerdictPages pages) {
        CHECKS.due("test", 0, pages.test(0));
        return pages.name(0, 0);
    }

    private static void newPage() {
        CHECKS.about("Promise 1: an empty page.");
        VerdictPages pages = new VerdictPages();
        CHECKS.due("length", 0, pages.length());
        CHECKS.due("at(0)", -1, pages.at(0));
        CHECKS.due("poke(0)", false, pages.poke(0, 'a'));
        CHECKS.due("cut(1)", false, pages.cut(1));
        CHECKS.due("read", -1, pages.read());
    }

    private static void letterAddsAtTheEnd() {
        CHECKS.about("Promise 2: Adds a character to the name that is begun: true");
        VerdictPages pages = new VerdictPages();
        for (char c : "~ \\#!}".toCharArray()) {
            CHECKS.due("letter " + (int) c, true, pages.letter(c));
        }
        pages.test(0);
        CHECKS.due("the name", "~ \\#!}", Checks.nameOf(pages, 0));
    }

    /** One object a code, since 512 calls are all that an object promises. */
    private static void dueLetter(int code, boolean want) {
        VerdictPages pages = new VerdictPages();
        CHECKS.due("letter " + code, want, pages.letter((char) code));
        pages.test(0);
        CHECKS.due("the name after letter " + code, want ? code : -1, pages.name(0, 0));
        CHECKS.due("its end after letter " + code, -1, pages.name(0, 1));
    }

    private static void letterTooSmall() {
        CHECKS.about("Promise 2: when its code is not 32 .. 126", "too small");
        for (int code = 0; code <= 31; code++) {
            dueLetter(code, false);
        }
        dueLetter(32, true);
        dueLetter(33, true);
    }

    private static void letterTooLarge() {
        CHECKS.about("Promise 2: when its code is not 32 .. 126", "too large");
        dueLetter(125, true);
        dueLetter(126, true);
        for (int code = 127; code <= 65535; code++) {
            dueLetter(code, false);
        }
    }

    private static void letterBehindSix() {
        CHECKS.about("Promise 2: or it has 6 characters.");
        VerdictPages pages = new VerdictPages();
        for (int i = 1; i <= 9; i++) {
            CHECKS.due("letter " + i, i <= 6, pages.letter((char) ('a' + i)));
        }
        CHECKS.due("test", 0, pages.test(0));
        CHECKS.due("its name", "bcdefg", Checks.nameOf(pages, 0));
        for (int i = 1; i <= 9; i++) {
            CHECKS.due("letter " + i + " of the next name", i <= 6, pages.letter(' '));
        }
        CHECKS.due("open", 1, pages.open());
        CHECKS.due("its name", "      ", Checks.nameOf(pages, 1));
    }

    private static void letterRefusedChangesNothing() {
        CHECKS.about("Promise 2: false, changing nothing, when its code is not 32 .. 126 or it has 6 characters.");
        for (String begun : new String[] {"", "a", "abcde", "abcdef"}) {
            Consumer<VerdictPages> making = pages -> {
                Checks.make(pages, "s{", "t=1");
                pages.write();
                Checks.begin(pages, begun);
            };
            for (int code : new int[] {0, 9, 10, 31, 127, 128, 256 + 'b', 65535}) {
                CHECKS.dueNoChange("letter " + code, making, pages -> pages.letter((char) code));
            }
        }
        Consumer<VerdictPages> six = pages -> Checks.begin(pages, "      ");
        for (char c : new char[] {' ', 'b', '~'}) {
            CHECKS.dueNoChange("a seventh letter", six, pages -> pages.letter(c));
        }
    }

    private static void openAddsToTheInnermostRow() {
        CHECKS.about("Promise 3: Adds an open suite with the name that is begun (which is then empty) to the "
            + "innermost row: its number.");
        VerdictPages pages = new VerdictPages();
        CHECKS.due("at the top", 0, Checks.open(pages, "a"));
        CHECKS.due("in one", 1, Checks.open(pages, "b"));
        CHECKS.due("in two", 2, Checks.open(pages, "c"));
        pages.close();
        CHECKS.due("in two again", 3, Checks.open(pages, "d"));
        pages.close();
        pages.close();
        CHECKS.due("in one again", 4, Checks.open(pages, "e"));
        pages.close();
        pages.close();
        CHECKS.due("at the top again", 5, Checks.open(pages, "f"));
        CHECKS.due("nodes", "0 4 'a'\n1 4 'b'\n2 4 'c'\n2 4 'd'\n1 4 'e'\n0 6 'f'\n", Checks.tellNodes(pages));
    }

    private static void openEmptiesTheName() {
        CHECKS.about("Promise 3: the name that is begun (which is then empty)");
        for (String name : new String[] {"", "a", "abcdef"}) {
            VerdictPages pages = new VerdictPages();
            Checks.open(pages, name);
            CHECKS.due("the next one", 1, pages.open());
            CHECKS.due("letters after it", true, pages.letter('z'));
            pages.open();
            CHECKS.due("names", "0 6 '" + name + "'\n1 6 ''\n2 6 'z'\n", Checks.tellNodes(pages));
        }
    }

    private static void openAt24Nodes() {
        CHECKS.about("Promise 3: FULL, changing nothing, when there are 24 nodes");
        for (int open = 0; open <= 2; open++) {
            VerdictPages pages = new VerdictPages();
            for (int i = 0; i < open; i++) {
                pages.open();
            }
            Checks.fill(pages, 23);
            CHECKS.due("a 24th node in " + open, 23, pages.open());
            CHECKS.due("a 25th in " + (open + 1), -2, pages.open());
            pages.close();
            CHECKS.due("a 25th in " + open, -2, pages.open());
            CHECKS.due("nodes", 24, pages.nodes());
        }
    }

    private static void openAtThreeOpen() {
        CHECKS.about("Promise 3: FULL, changing nothing, when there are 24 nodes or 3 open suites.");
        VerdictPages pages = new VerdictPages();
        for (int suite = 0; suite < 3; suite++) {
            CHECKS.due("one of three", suite, pages.open());
        }
        CHECKS.due("a fourth", -2, pages.open());
        pages.test(0);
        CHECKS.due("a fourth behind a test", -2, pages.open());
        CHECKS.due("nodes", 4, pages.nodes());
        for (int number = 4; number < 24; number++) {
            pages.close();
            CHECKS.due("a third again", number, pages.open());
            CHECKS.due("a fourth again", -2, pages.open());
        }
    }

    private static void openRefusedChangesNothing() {
        CHECKS.about("Promise 3: FULL, changing nothing");
        for (String begun : new String[] {"", "n", "abcdef"}) {
            Consumer<VerdictPages> three = pages -> {
                Checks.make(pages, "a{", "b{", "t=1", "c{");
                pages.write();
                Checks.begin(pages, begun);
            };
            CHECKS.dueNoChange("open at three", three, VerdictPages::open);
            Consumer<VerdictPages> many = pages -> {
                pages.open();
                Checks.fill(pages, 24);
                pages.put('p');
                Checks.begin(pages, begun);
            };
            CHECKS.dueNoChange("open at 24", many, VerdictPages::open);
        }
    }

    private static void closeOfTheLastOpen() {
        CHECKS.about("Promise 4: Closes the last open suite: true");
        VerdictPages pages = Checks.made("a{", "}", "b{", "c{", "d{", "}");
        CHECKS.due("close", true, pages.close());
        CHECKS.due("nodes", "0 4 'a'\n0 6 'b'\n1 4 'c'\n2 4 'd'\n", Checks.tellNodes(pages));
        CHECKS.due("close", true, pages.close());
        CHECKS.due("nodes", "0 4 'a'\n0 4 'b'\n1 4 'c'\n2 4 'd'\n", Checks.tellNodes(pages));
        VerdictPages full = Checks.made("{");
        Checks.fill(full, 24);
        CHECKS.due("close at 24 nodes", true, full.close());
        CHECKS.due("it is closed", 4, full.kind(0));
    }

    private static void closeWhenNoneIsOpen() {
        CHECKS.about("Promise 4: false when none is open.");
        CHECKS.due("of a new one", false, new VerdictPages().close());
        CHECKS.due("behind tests", false, Checks.made("=0", "=1").close());
        VerdictPages three = Checks.made("{", "{", "{", "}", "}", "}");
        CHECKS.due("behind three closed ones", false, three.close());
        CHECKS.due("and again", false, three.close());
        VerdictPages reset = Checks.made("{", "{");
        reset.reset();
        CHECKS.due("after reset", false, reset.close());
        VerdictPages read = Checks.made("{", "{");
        CHECKS.due("read", 0, Checks.read(read, "TAP version 14\n# Subtest: \n    1..0\nok 1 - \n1..1\n"));
        CHECKS.due("after read", false, read.close());
    }

    private static void closeOfNoneChangesNothing() {
        CHECKS.about("Promise 4: Closes the last open suite: true; false when none is open.", "no other change");
        Consumer<VerdictPages> closed = pages -> {
            Checks.make(pages, "a{", "t=1", "}", "b{", "}", "u=0");
            pages.put('p');
            Checks.begin(pages, "n");
        };
        CHECKS.dueNoChange("close of none", closed, VerdictPages::close);
        CHECKS.dueNoChange("close of a new one", pages -> { }, VerdictPages::close);
        VerdictPages pages = new VerdictPages();
        pages.close();
        pages.close();
        for (int suite = 0; suite < 3; suite++) {
            CHECKS.due("open after it", suite, pages.open());
        }
        CHECKS.due("a fourth after it", -2, pages.open());
    }

    private static void testAddsToTheInnermostRow() {
        CHECKS.about("Promise 5: Adds a test with that result and the name that is begun (which is then empty) to the "
            + "innermost row: its number.");
        VerdictPages pages = new VerdictPages();
        int number = 0;
        for (int depth = 0; depth <= 3; depth++) {
            CHECKS.due("at depth " + depth, number, Checks.test(pages, "t" + depth, depth));
            CHECKS.due("its depth", depth, pages.depth(number));
            CHECKS.due("its result", depth, pages.kind(number));
            CHECKS.due("its name", "t" + depth, Checks.nameOf(pages, number));
            pages.open();
            number += 2;
        }
    }

    private static void testEmptiesTheName() {
        CHECKS.about("Promise 5: the name that is begun (which is then empty)");
        for (String name : new String[] {"", "a", "abcdef"}) {
            VerdictPages pages = new VerdictPages();
            Checks.test(pages, name, 3);
            CHECKS.due("the next one", 1, pages.test(2));
            CHECKS.due("letters after it", true, pages.letter('z'));
            pages.test(1);
            CHECKS.due("names", "0 3 '" + name + "'\n0 2 ''\n0 1 'z'\n", Checks.tellNodes(pages));
        }
    }

    private static void testOfNoResult() {
        CHECKS.about("Promise 5: BAD when result is not 0 .. 3");
        VerdictPages pages = new VerdictPages();
        for (int result : NO_RESULTS) {
            CHECKS.due("test(" + result + ")", -1, pages.test(result));
        }
        for (int result : Checks.FAR) {
            CHECKS.due("test(" + result + ")", -1, pages.test(result));
        }
        CHECKS.due("nodes", 0, pages.nodes());
        CHECKS.due("test(0)", 0, pages.test(0));
        CHECKS.due("test(3)", 1, pages.test(3));
    }

    private static void testAt24Nodes() {
        CHECKS.about("Promise 5: else FULL when there are 24 nodes");
        for (int open = 0; open <= 3; open++) {
            VerdictPages pages = new VerdictPages();
            for (int i = 0; i < open; i++) {
                pages.open();
            }
            Checks.fill(pages, 23);
            CHECKS.due("a 24th in " + open, 23, pages.test(1));
            for (int result = 0; result <= 3; result++) {
                CHECKS.due("a 25th in " + open + " with " + result, -2, pages.test(result));
            }
            CHECKS.due("nodes", 24, pages.nodes());
            pages.reset();
            CHECKS.due("after reset", 0, pages.test(0));
        }
    }

    private static void testIsBadBeforeItIsFull() {
        CHECKS.about("Promise 5: BAD when result is not 0 .. 3; else FULL when there are 24 nodes");
        VerdictPages pages = Checks.made("{", "{", "{");
        Checks.fill(pages, 24);
        for (int result : NO_RESULTS) {
            CHECKS.due("test(" + result + ") at 24 nodes", -1, pages.test(result));
        }
        for (int result : Checks.FAR) {
            CHECKS.due("test(" + result + ") at 24 nodes", -1, pages.test(result));
        }
        CHECKS.due("test(0) at 24 nodes", -2, pages.test(0));
        CHECKS.due("test(3) at 24 nodes", -2, pages.test(3));
    }

    private static void testRefusedChangesNothing() {
        CHECKS.about("Promise 5: both change nothing.");
        for (String begun : new String[] {"", "n", "abcdef"}) {
            Consumer<VerdictPages> some = pages -> {
                Checks.make(pages, "a{", "t=1", "b{");
                pages.write();
                Checks.begin(pages, begun);
            };
            Consumer<VerdictPages> many = pages -> {
                pages.open();
                Checks.fill(pages, 24);
                pages.put('p');
                Checks.begin(pages, begun);
            };
            for (int result : NO_RESULTS) {
                CHECKS.dueNoChange("test(" + result + ")", some, pages -> pages.test(result));
                CHECKS.dueNoChange("test(" + result + ") at 24", many, pages -> pages.test(result));
            }
            for (int result = 0; result <= 3; result++) {
                int given = result;
                CHECKS.dueNoChange("test(" + given + ") at 24", many, pages -> pages.test(given));
            }
        }
    }

    private static void resetLeavesNoNodes() {
        CHECKS.about("Promise 6: The report has no nodes then.");
        for (String[] marks : new String[][] {{}, {"t=1"}, {"s{", "t=1", "}"}, {"a{", "b{", "c{", "t=1"}}) {
            VerdictPages pages = Checks.made(marks);
            pages.reset();
            CHECKS.due("nodes", 0, pages.nodes());
            CHECKS.due("kind(0)", -1, pages.kind(0));
            CHECKS.due("depth(0)", -1, pages.depth(0));
            CHECKS.due("name(0, 0)", -1, pages.name(0, 0));
            CHECKS.due("attempts(0)", -1, pages.attempts(0));
            CHECKS.duePage("after reset", "TAP version 14\n1..0\n", pages);
        }
        VerdictPages full = new VerdictPages();
        Checks.fill(full, 24);
        full.reset();
        for (int number = 0; number < 24; number++) {
            CHECKS.due("room after reset", number, full.test(1));
        }
        CHECKS.due("no more room", -2, full.test(1));
    }

    private static void resetLeavesNoOpenSuite() {
        CHECKS.about("Promise 6: The report has no nodes then.", "so no suite is open");
        VerdictPages pages = Checks.made("a{", "b{", "c{");
        pages.reset();
        CHECKS.due("close", false, pages.close());
        CHECKS.due("test", 0, pages.test(1));
        CHECKS.due("its depth", 0, pages.depth(0));
        for (int number = 1; number <= 3; number++) {
            CHECKS.due("open", number, pages.open());
            CHECKS.due("its depth", number - 1, pages.depth(number));
        }
        CHECKS.due("a fourth", -2, pages.open());
    }

    private static void resetKeepsTheName() {
        CHECKS.about("Promise 6: (The name that is begun and the page stay.)", "the name");
        for (String begun : new String[] {"", "n", "abcdef"}) {
            VerdictPages pages = Checks.made("old{", "older=1");
            Checks.begin(pages, begun);
            pages.reset();
            CHECKS.due("room for one more letter", begun.length() < 6, pages.letter('z'));
            pages.test(2);
            CHECKS.due("nodes", "0 2 '" + begun + (begun.length() < 6 ? "z" : "") + "'\n", Checks.tellNodes(pages));
        }
    }

    private static void resetKeepsThePage() {
        CHECKS.about("Promise 6: (The name that is begun and the page stay.)", "the page");
        for (String page : new String[] {"", "x", "\n", "TAP version 14\nok 1 - a\n1..1\n"}) {
            VerdictPages pages = Checks.made("a=0");
            Checks.setPage(pages, page);
            pages.reset();
            CHECKS.due("length", page.length(), pages.length());
            CHECKS.due("the page", page, Checks.pageOf(pages));
        }
        VerdictPages written = Checks.made("a=0");
        written.write();
        written.reset();
        CHECKS.due("read of the page that stayed", 0, written.read());
        CHECKS.due("nodes", "0 0 'a'\n", Checks.tellNodes(written));
    }
}
