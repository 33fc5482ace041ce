import java.util.function.Consumer;

/** The sentences of promises 13 to 17 that name an edge, a test for each. */
public final class PageEdgesTest {
    private static final Checks CHECKS = new Checks();
    private static final int[] NO_CODES = {0, 1, 9, 11, 13, 31, 127, 128, 159, 10 + 128, 32 + 128, 10 + 256, 'a' + 256,
        65535};

    public static void main(String[] args) {
        CHECKS.run(
            PageEdgesTest::lengthFromNothing,
            PageEdgesTest::atFromTheFirstToTheLast,
            PageEdgesTest::atBelowAndAbove,
            PageEdgesTest::putAtTheEnd,
            PageEdgesTest::putOfNoCode,
            PageEdgesTest::putAtThreeThousand,
            PageEdgesTest::putRefusedChangesNothing,
            PageEdgesTest::pokeFromTheFirstToTheLast,
            PageEdgesTest::pokeWhereThereIsNone,
            PageEdgesTest::pokeOfNoCode,
            PageEdgesTest::pokeRefusedChangesNothing,
            PageEdgesTest::cutFromNothingToAll,
            PageEdgesTest::cutBelowAndAbove,
            PageEdgesTest::cutRefusedChangesNothing,
            PageEdgesTest::threeThousandCharacters);
        CHECKS.end();
    }

    private static VerdictPages withPage(String page) {
        VerdictPages pages = new VerdictPages();
        Checks.setPage(pages, page);
        return pages;
    }

    /** More than 512 calls, the only way to so long a page: what write makes is shorter, and put adds one. */
    private static VerdictPages full() {
        return withPage("ab\n".repeat(1000));
    }

    private static void lengthFromNothing() {
        CHECKS.about("Promise 13: The length of the page.");
        VerdictPages pages = new VerdictPages();
        CHECKS.due("length", 0, pages.length());
        for (int length = 1; length <= 50; length++) {
            pages.put(length % 2 == 0 ? '\n' : ' ');
            CHECKS.due("length", length, pages.length());
        }
        pages.poke(49, 'x');
        CHECKS.due("length after poke", 50, pages.length());
        pages.cut(1);
        CHECKS.due("length after cut", 1, pages.length());
        pages.cut(0);
        CHECKS.due("length after cut", 0, pages.length());
        CHECKS.due("length after write", pages.write(), pages.length());
    }

    private static void atFromTheFirstToTheLast() {
        CHECKS.about("Promise 14: The code of the i-th character of the page, counted from 0");
        VerdictPages pages = withPage("\n ~#\\\n");
        int[] codes = {10, 32, 126, 35, 92, 10};
        for (int i = 0; i < codes.length; i++) {
            CHECKS.due("at(" + i + ")", codes[i], pages.at(i));
        }
    }

    private static void atBelowAndAbove() {
        CHECKS.about("Promise 14: -1 when there is none.");
        VerdictPages cut = withPage("abc");
        cut.cut(1);
        VerdictPages cutToNothing = withPage("abc");
        cutToNothing.cut(0);
        for (VerdictPages pages : new VerdictPages[] {new VerdictPages(), withPage("a"), withPage("abc\n"), cut,
            cutToNothing}) {
            int length = pages.length();
            CHECKS.due("at(-1) of " + length, -1, pages.at(-1));
            CHECKS.due("at(" + length + ")", -1, pages.at(length));
            CHECKS.due("at(" + (length + 1) + ") of " + length, -1, pages.at(length + 1));
            CHECKS.due("at(2999) of " + length, -1, pages.at(2999));
            CHECKS.due("at(3000) of " + length, -1, pages.at(3000));
            for (int i : Checks.FAR) {
                CHECKS.due("at(" + i + ") of " + length, -1, pages.at(i));
            }
        }
    }

    private static void putAtTheEnd() {
        CHECKS.about("Promise 15: Puts a character at the end of the page: true");
        for (int code = 10; code <= 126; code = code == 10 ? 32 : code + 1) {
            VerdictPages pages = withPage("ab");
            CHECKS.due("put " + code, true, pages.put((char) code));
            CHECKS.due("length after put " + code, 3, pages.length());
            CHECKS.due("the last after put " + code, code, pages.at(2));
            CHECKS.due("the one before", 'b', pages.at(1));
        }
    }

    private static void putOfNoCode() {
        CHECKS.about("Promise 15: when its code is neither 10 nor 32 .. 126");
        for (int code = 0; code <= 65535; code++) {
            if (code != 10 && (code < 32 || code > 126)) {
                VerdictPages pages = new VerdictPages();
                CHECKS.due("put " + code, false, pages.put((char) code));
                CHECKS.due("length after put " + code, 0, pages.length());
            }
        }
    }

    private static void putAtThreeThousand() {
        CHECKS.about("Promise 15: or the page has 3000.");
        VerdictPages pages = full();
        CHECKS.due("length", 3000, pages.length());
        for (char c : new char[] {'a', '\n', ' ', '~'}) {
            CHECKS.due("put at 3000", false, pages.put(c));
        }
        CHECKS.due("length", 3000, pages.length());
        pages.cut(2999);
        CHECKS.due("put at 2999", true, pages.put('z'));
        CHECKS.due("at(2999)", 'z', pages.at(2999));
        CHECKS.due("put at 3000", false, pages.put('y'));
        pages.cut(2998);
        CHECKS.due("put at 2998", true, pages.put('z'));
        CHECKS.due("put at 2999", true, pages.put('z'));
        CHECKS.due("put at 3000", false, pages.put('z'));
    }

    private static void putRefusedChangesNothing() {
        CHECKS.about("Promise 15: false, changing nothing, when its code is neither 10 nor 32 .. 126, "
            + "or the page has 3000.");
        for (int code : NO_CODES) {
            CHECKS.dueNoChange("put " + code, written("n"), pages -> pages.put((char) code));
            CHECKS.dueNoChange("put " + code + " on nothing", pages -> { }, pages -> pages.put((char) code));
        }
        VerdictPages pages = full();
        pages.put('x');
        CHECKS.due("all characters after put at 3000", "ab\n".repeat(1000), Checks.pageOf(pages));
    }

    /** A report with its page, and a name that is begun. */
    private static Consumer<VerdictPages> written(String begun) {
        return pages -> {
            Checks.make(pages, "s{", "t=1");
            pages.write();
            Checks.begin(pages, begun);
        };
    }

    private static void pokeFromTheFirstToTheLast() {
        CHECKS.about("Promise 16: The i-th character of the page becomes this one: true");
        for (int i = 0; i < 5; i++) {
            for (int code = 10; code <= 126; code = code == 10 ? 32 : code + 1) {
                VerdictPages pages = withPage("abc\nd");
                CHECKS.due("poke(" + i + ", " + code + ")", true, pages.poke(i, (char) code));
                StringBuilder want = new StringBuilder("abc\nd");
                want.setCharAt(i, (char) code);
                CHECKS.due("the page", want.toString(), Checks.pageOf(pages));
            }
        }
    }

    private static void pokeWhereThereIsNone() {
        CHECKS.about("Promise 16: false, changing nothing, when there is none");
        VerdictPages cut = withPage("abc");
        cut.cut(1);
        for (VerdictPages pages : new VerdictPages[] {new VerdictPages(), withPage("a"), withPage("abc\n"), cut}) {
            int length = pages.length();
            CHECKS.due("poke(-1) of " + length, false, pages.poke(-1, 'x'));
            CHECKS.due("poke(" + length + ")", false, pages.poke(length, 'x'));
            CHECKS.due("poke(" + (length + 1) + ") of " + length, false, pages.poke(length + 1, 'x'));
            CHECKS.due("poke(2999) of " + length, false, pages.poke(2999, 'x'));
            CHECKS.due("poke(3000) of " + length, false, pages.poke(3000, 'x'));
            for (int i : Checks.FAR) {
                CHECKS.due("poke(" + i + ") of " + length, false, pages.poke(i, 'x'));
            }
            CHECKS.due("length", length, pages.length());
        }
    }

    private static void pokeOfNoCode() {
        CHECKS.about("Promise 16: or the code is neither 10 nor 32 .. 126.");
        for (int code = 0; code <= 65535; code++) {
            if (code != 10 && (code < 32 || code > 126)) {
                VerdictPages pages = withPage("ab");
                CHECKS.due("poke(1, " + code + ")", false, pages.poke(1, (char) code));
                CHECKS.due("at(1) after poke of " + code, 'b', pages.at(1));
            }
        }
    }

    private static void pokeRefusedChangesNothing() {
        CHECKS.about("Promise 16: false, changing nothing, when there is none, "
            + "or the code is neither 10 nor 32 .. 126.");
        for (int code : NO_CODES) {
            CHECKS.dueNoChange("poke(0, " + code + ")", written("n"), pages -> pages.poke(0, (char) code));
        }
        CHECKS.dueNoChange("poke at -1", written("n"), pages -> pages.poke(-1, 'x'));
        CHECKS.dueNoChange("poke at the length", written("n"), pages -> pages.poke(pages.length(), 'x'));
        CHECKS.dueNoChange("poke at -1 of no code", written("n"), pages -> pages.poke(-1, (char) 0));
        for (int i : Checks.FAR) {
            CHECKS.dueNoChange("poke at " + i, written("n"), pages -> pages.poke(i, 'x'));
        }
        VerdictPages behind = withPage("ab");
        behind.poke(2, 'x');
        behind.put('c');
        CHECKS.due("put behind a refused poke", "abc", Checks.pageOf(behind));
    }

    private static void cutFromNothingToAll() {
        CHECKS.about("Promise 17: Leaves the first n characters of the page: true");
        String page = "ab\ncd\n";
        for (int n = 0; n <= page.length(); n++) {
            VerdictPages pages = withPage(page);
            CHECKS.due("cut(" + n + ")", true, pages.cut(n));
            CHECKS.due("the page", page.substring(0, n), Checks.pageOf(pages));
            CHECKS.due("cut(" + n + ") again", true, pages.cut(n));
            CHECKS.due("put", true, pages.put('z'));
            CHECKS.due("the page then", page.substring(0, n) + "z", Checks.pageOf(pages));
        }
        CHECKS.due("cut(0) of nothing", true, new VerdictPages().cut(0));
    }

    private static void cutBelowAndAbove() {
        CHECKS.about("Promise 17: false, changing nothing, when n is not 0 .. its length.");
        for (String page : new String[] {"", "a", "ab\n", "x".repeat(100)}) {
            VerdictPages pages = withPage(page);
            CHECKS.due("cut(-1) of " + page.length(), false, pages.cut(-1));
            CHECKS.due("cut(" + (page.length() + 1) + ") of " + page.length(), false, pages.cut(page.length() + 1));
            CHECKS.due("cut(3000) of " + page.length(), false, pages.cut(3000));
            for (int n : Checks.FAR) {
                CHECKS.due("cut(" + n + ") of " + page.length(), false, pages.cut(n));
            }
            CHECKS.due("length", page.length(), pages.length());
        }
    }

    private static void cutRefusedChangesNothing() {
        CHECKS.about("Promise 17: false, changing nothing");
        CHECKS.dueNoChange("cut(-1)", written("n"), pages -> pages.cut(-1));
        CHECKS.dueNoChange("cut(length + 1)", written("n"), pages -> pages.cut(pages.length() + 1));
        CHECKS.dueNoChange("cut(1) of nothing", pages -> { }, pages -> pages.cut(1));
        for (int n : Checks.FAR) {
            CHECKS.dueNoChange("cut(" + n + ")", written("n"), pages -> pages.cut(n));
        }
        VerdictPages cut = withPage("abc");
        cut.cut(1);
        CHECKS.due("cut(2) of what was longer", false, cut.cut(2));
        CHECKS.due("the page", "a", Checks.pageOf(cut));
    }

    private static void threeThousandCharacters() {
        CHECKS.about("Promise 15: the page has 3000.", "what the other calls answer then");
        VerdictPages pages = full();
        CHECKS.due("at(2999)", 10, pages.at(2999));
        CHECKS.due("at(3000)", -1, pages.at(3000));
        CHECKS.due("poke(3000)", false, pages.poke(3000, 'x'));
        CHECKS.due("poke(2999)", true, pages.poke(2999, 'x'));
        CHECKS.due("at(2999)", 'x', pages.at(2999));
        CHECKS.due("cut(3001)", false, pages.cut(3001));
        CHECKS.due("cut(3000)", true, pages.cut(3000));
        CHECKS.due("length", 3000, pages.length());
        CHECKS.due("read", -1, pages.read());
        CHECKS.due("read of one line that is not ended", -1, withPage("x".repeat(3000)).read());
        CHECKS.due("read of empty lines alone", -1, withPage("\n".repeat(3000)).read());
        CHECKS.due("read of a title alone", -2, withPage("TAP version 14\n" + " ".repeat(2985)).read());
        VerdictPages behind = withPage("TAP version 14\n1..0\n" + "\n".repeat(2980));
        CHECKS.due("read of a page with empty lines behind it", -3, behind.read());
        CHECKS.due("write", 20, behind.write());
        CHECKS.due("put after it", true, behind.put('x'));
    }
}
