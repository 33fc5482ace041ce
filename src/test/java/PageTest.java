/** Promises 13 to 17: length, at, put, poke, cut. */
public final class PageTest {
    private static final Checks CHECKS = new Checks();

    public static void main(String[] args) {
        putTakesItsCodes();
        putEndsAtThreeThousand();
        atItsPlaces();
        pokeTakesItsCodes();
        pokeItsPlaces();
        cutItsLengths();
        pageIsApartFromReport();
        CHECKS.end();
    }

    private static boolean isOfPages(int code) {
        return code == 10 || (code >= 32 && code <= 126);
    }

    private static void putTakesItsCodes() {
        int length = 0;
        VerdictPages pages = new VerdictPages();
        for (int code = 0; code < 400; code++) {
            CHECKS.due("put " + code, isOfPages(code), pages.put((char) code));
            length += isOfPages(code) ? 1 : 0;
            CHECKS.due("length after put " + code, length, pages.length());
            CHECKS.due("at after put " + code, isOfPages(code) ? code : -1,
                isOfPages(code) ? pages.at(length - 1) : pages.at(length));
        }
        CHECKS.due("put 65535", false, pages.put((char) 65535));
        CHECKS.due("put 256 + 65", false, pages.put((char) 321));
    }

    private static void putEndsAtThreeThousand() {
        VerdictPages pages = new VerdictPages();
        for (int i = 0; i < 3000; i++) {
            CHECKS.due("put of 3000", true, pages.put((char) (32 + i % 95)));
        }
        CHECKS.due("put 3001st", false, pages.put('x'));
        CHECKS.due("put 3001st, a line end", false, pages.put('\n'));
        CHECKS.due("length", 3000, pages.length());
        CHECKS.due("at(2999)", 32 + 2999 % 95, pages.at(2999));
        CHECKS.due("at(3000)", -1, pages.at(3000));
        CHECKS.due("poke(2999)", true, pages.poke(2999, 'y'));
        CHECKS.due("at(2999) then", 'y', pages.at(2999));
        CHECKS.due("poke(3000)", false, pages.poke(3000, 'y'));
        CHECKS.due("cut(3001)", false, pages.cut(3001));
        CHECKS.due("cut(3000)", true, pages.cut(3000));
        CHECKS.due("read", -1, pages.read());
        CHECKS.due("cut(2999)", true, pages.cut(2999));
        CHECKS.due("put again", true, pages.put('z'));
        CHECKS.due("put once more", false, pages.put('z'));
    }

    private static void atItsPlaces() {
        VerdictPages pages = new VerdictPages();
        Checks.setPage(pages, "ab\n");
        CHECKS.due("length", 3, pages.length());
        CHECKS.due("at(0)", 'a', pages.at(0));
        CHECKS.due("at(1)", 'b', pages.at(1));
        CHECKS.due("at(2)", 10, pages.at(2));
        int[] noPlaces = {-1, 3, 2999, 3000, Integer.MIN_VALUE, Integer.MAX_VALUE};
        for (int i : noPlaces) {
            CHECKS.due("at(" + i + ")", -1, pages.at(i));
        }
    }

    private static void pokeTakesItsCodes() {
        VerdictPages pages = new VerdictPages();
        for (int code = 0; code < 400; code++) {
            Checks.setPage(pages, "xyz");
            CHECKS.due("poke " + code, isOfPages(code), pages.poke(1, (char) code));
            CHECKS.due("page after poke " + code, isOfPages(code) ? "x" + (char) code + "z" : "xyz",
                Checks.pageOf(pages));
        }
    }

    private static void pokeItsPlaces() {
        VerdictPages pages = new VerdictPages();
        CHECKS.due("poke into nothing", false, pages.poke(0, 'a'));
        Checks.setPage(pages, "xyz");
        CHECKS.due("poke(0)", true, pages.poke(0, '1'));
        CHECKS.due("poke(2)", true, pages.poke(2, '3'));
        int[] noPlaces = {-1, 3, 2999, 3000, Integer.MIN_VALUE, Integer.MAX_VALUE};
        for (int i : noPlaces) {
            CHECKS.due("poke(" + i + ")", false, pages.poke(i, 'a'));
        }
        CHECKS.due("after poke", "1y3", Checks.pageOf(pages));
        pages.cut(1);
        CHECKS.due("poke behind a cut", false, pages.poke(1, 'a'));
    }

    private static void cutItsLengths() {
        VerdictPages pages = new VerdictPages();
        CHECKS.due("cut(0) of nothing", true, pages.cut(0));
        CHECKS.due("cut(1) of nothing", false, pages.cut(1));
        Checks.setPage(pages, "abcd");
        int[] noLengths = {-1, 5, 3000, Integer.MIN_VALUE, Integer.MAX_VALUE};
        for (int n : noLengths) {
            CHECKS.due("cut(" + n + ")", false, pages.cut(n));
        }
        CHECKS.due("page", "abcd", Checks.pageOf(pages));
        CHECKS.due("cut(4)", true, pages.cut(4));
        CHECKS.due("page", "abcd", Checks.pageOf(pages));
        CHECKS.due("cut(2)", true, pages.cut(2));
        CHECKS.due("page", "ab", Checks.pageOf(pages));
        CHECKS.due("at(2)", -1, pages.at(2));
        CHECKS.due("cut(3)", false, pages.cut(3));
        pages.put('z');
        CHECKS.due("page", "abz", Checks.pageOf(pages));
        CHECKS.due("cut(0)", true, pages.cut(0));
        CHECKS.due("length", 0, pages.length());
    }

    private static void pageIsApartFromReport() {
        VerdictPages pages = new VerdictPages();
        Checks.open(pages, "s");
        Checks.begin(pages, "n");
        pages.write();
        pages.put('x');
        pages.poke(0, 'y');
        pages.cut(3);
        CHECKS.due("nodes", "0 6 's'\n", Checks.tellNodes(pages));
        pages.test(1);
        CHECKS.due("nodes", "0 6 's'\n1 1 'n'\n", Checks.tellNodes(pages));
        CHECKS.due("page", "yAP", Checks.pageOf(pages));
    }
}
