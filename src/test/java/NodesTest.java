/** Promises 7 to 10: nodes, kind, depth, name. */
public final class NodesTest {
    private static final Checks CHECKS = new Checks();
    private static final int[] NO_NUMBERS = {-1, -2, 24, 25, Integer.MIN_VALUE, Integer.MAX_VALUE};

    public static void main(String[] args) {
        nodesCounts();
        kindOfSuites();
        goodnessGoesOutwards();
        depthOfAll();
        nameByCharacters();
        wrongNumbers();
        CHECKS.end();
    }

    private static void nodesCounts() {
        VerdictPages pages = new VerdictPages();
        for (int node = 0; node < 24; node++) {
            CHECKS.due("nodes", node, pages.nodes());
            pages.test(0);
        }
        CHECKS.due("nodes", 24, pages.nodes());
        pages.test(0);
        CHECKS.due("nodes, full", 24, pages.nodes());
    }

    private static void kindOfSuites() {
        int[] dueByResult = {4, 5, 4, 4};
        for (int result = 0; result <= 3; result++) {
            VerdictPages pages = new VerdictPages();
            pages.open();
            pages.test(0);
            pages.test(result);
            pages.test(2);
            CHECKS.due("open with " + result, 6, pages.kind(0));
            pages.close();
            CHECKS.due("closed with " + result, dueByResult[result], pages.kind(0));
            CHECKS.due("the test", result, pages.kind(2));
        }
        VerdictPages pages = new VerdictPages();
        pages.open();
        pages.close();
        CHECKS.due("an empty suite", 4, pages.kind(0));
    }

    private static void goodnessGoesOutwards() {
        VerdictPages pages = new VerdictPages();
        pages.test(1);
        pages.open();
        pages.open();
        pages.test(0);
        pages.close();
        pages.open();
        pages.open();
        pages.test(1);
        pages.close();
        CHECKS.due("around, still open", 6, pages.kind(4));
        pages.close();
        pages.close();
        pages.open();
        pages.close();
        pages.test(1);
        CHECKS.due("kinds", "0 1 ''\n0 5 ''\n1 4 ''\n2 0 ''\n1 5 ''\n2 5 ''\n3 1 ''\n0 4 ''\n0 1 ''\n",
            Checks.tellNodes(pages));
    }

    private static void depthOfAll() {
        VerdictPages pages = new VerdictPages();
        for (int depth = 0; depth < 3; depth++) {
            int before = pages.test(0);
            int suite = pages.open();
            CHECKS.due("depth of a test", depth, pages.depth(before));
            CHECKS.due("depth of a suite", depth, pages.depth(suite));
        }
        CHECKS.due("depth of the innermost", 3, pages.depth(pages.test(0)));
        for (int depth = 2; depth >= 0; depth--) {
            pages.close();
            CHECKS.due("depth behind a suite", depth, pages.depth(pages.test(0)));
        }
    }

    private static void nameByCharacters() {
        VerdictPages pages = new VerdictPages();
        Checks.test(pages, "abcdef", 0);
        Checks.open(pages, "\\#");
        pages.test(0);
        Checks.test(pages, " ", 0);
        Checks.begin(pages, "not");
        for (int i = 0; i < 6; i++) {
            CHECKS.due("name(0, " + i + ")", 'a' + i, pages.name(0, i));
        }
        CHECKS.due("name(1, 0)", '\\', pages.name(1, 0));
        CHECKS.due("name(1, 1)", '#', pages.name(1, 1));
        CHECKS.due("name(1, 2)", -1, pages.name(1, 2));
        CHECKS.due("name(2, 0)", -1, pages.name(2, 0));
        CHECKS.due("name(3, 0)", ' ', pages.name(3, 0));
        CHECKS.due("name(4, 0)", -1, pages.name(4, 0));
        int[] noPlaces = {-1, 6, 7, 8, 9, 10, 64, -64, Integer.MIN_VALUE, Integer.MAX_VALUE};
        for (int i : noPlaces) {
            CHECKS.due("name(0, " + i + ")", -1, pages.name(0, i));
        }
    }

    private static void wrongNumbers() {
        VerdictPages pages = new VerdictPages();
        for (int node = 0; node < 24; node++) {
            CHECKS.due("kind(" + node + ") before", -1, pages.kind(node));
            CHECKS.due("depth(" + node + ") before", -1, pages.depth(node));
            Checks.test(pages, "n", 3);
            CHECKS.due("kind(" + node + ")", 3, pages.kind(node));
            CHECKS.due("depth(" + node + ")", 0, pages.depth(node));
        }
        for (int node : NO_NUMBERS) {
            CHECKS.due("kind(" + node + ")", -1, pages.kind(node));
            CHECKS.due("depth(" + node + ")", -1, pages.depth(node));
            CHECKS.due("name(" + node + ", 0)", -1, pages.name(node, 0));
        }
    }
}
