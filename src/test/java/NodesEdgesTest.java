/** The sentences of promises 7 to 10 that name an edge, a test for each. */
public final class NodesEdgesTest {
    private static final Checks CHECKS = new Checks();

    public static void main(String[] args) {
        CHECKS.run(
            NodesEdgesTest::nodesFromNoneTo24,
            NodesEdgesTest::kindOfTests,
            NodesEdgesTest::kindOfSuites,
            NodesEdgesTest::kindOfNone,
            NodesEdgesTest::depthFromNoneToThree,
            NodesEdgesTest::depthOfNone,
            NodesEdgesTest::nameByPlaces,
            NodesEdgesTest::nameOfNoNode,
            NodesEdgesTest::nameOfNoCharacter);
        CHECKS.end();
    }

    private static void nodesFromNoneTo24() {
        CHECKS.about("Promise 7: How many nodes the report has.");
        VerdictPages pages = new VerdictPages();
        for (int nodes = 0; nodes < 24; nodes++) {
            CHECKS.due("nodes", nodes, pages.nodes());
            if (nodes % 2 == 0) {
                pages.test(nodes % 4);
            } else {
                pages.open();
                CHECKS.due("nodes with an open suite", nodes + 1, pages.nodes());
                pages.close();
            }
        }
        CHECKS.due("nodes when full", 24, pages.nodes());
        pages.test(0);
        pages.open();
        CHECKS.due("nodes after FULL", 24, pages.nodes());
        pages.reset();
        CHECKS.due("nodes after reset", 0, pages.nodes());
    }

    private static void kindOfTests() {
        CHECKS.about("Promise 8: its result, for a test");
        VerdictPages pages = new VerdictPages();
        for (int number = 0; number < 24; number++) {
            pages.test(3 - number % 4);
        }
        for (int number = 0; number < 24; number++) {
            CHECKS.due("kind(" + number + ")", 3 - number % 4, pages.kind(number));
        }
    }

    private static void kindOfSuites() {
        CHECKS.about("Promise 8: 4 for a closed suite that is good, 5 for a closed one that is not, 6 for an open one");
        VerdictPages pages = Checks.made("{", "}", "{", "=1", "}", "{", "=1");
        CHECKS.due("closed and good", 4, pages.kind(0));
        CHECKS.due("closed and not good", 5, pages.kind(1));
        CHECKS.due("open, with a failed one", 6, pages.kind(3));
        VerdictPages full = Checks.made("{", "{", "{");
        Checks.fill(full, 23);
        full.test(1);
        CHECKS.due("kinds when full", 666, full.kind(0) * 100 + full.kind(1) * 10 + full.kind(2));
        full.close();
        CHECKS.due("the last node failed", 665, full.kind(0) * 100 + full.kind(1) * 10 + full.kind(2));
        full.close();
        full.close();
        CHECKS.due("all closed", 555, full.kind(0) * 100 + full.kind(1) * 10 + full.kind(2));
    }

    /** Reports of no, some and 24 nodes. */
    private static VerdictPages[] reports() {
        VerdictPages full = Checks.made("abcdef{");
        while (full.nodes() < 24) {
            Checks.test(full, "abcdef", 1);
        }
        VerdictPages reset = Checks.made("abcdef{", "abcdef=1");
        reset.reset();
        return new VerdictPages[] {new VerdictPages(), reset, Checks.made("abcdef{", "abcdef=1"), full};
    }

    private static void kindOfNone() {
        CHECKS.about("Promise 8: 6 for an open one; BAD when there is none.");
        for (VerdictPages pages : reports()) {
            int nodes = pages.nodes();
            CHECKS.due("kind(-1) of " + nodes, -1, pages.kind(-1));
            for (int node = nodes; node <= nodes + 24; node++) {
                CHECKS.due("kind(" + node + ") of " + nodes, -1, pages.kind(node));
            }
            for (int node : Checks.FAR) {
                CHECKS.due("kind(" + node + ") of " + nodes, -1, pages.kind(node));
            }
            for (int node = 0; node < nodes; node++) {
                CHECKS.due("kind(" + node + ") of " + nodes, node == 0 ? 6 : 1, pages.kind(node));
            }
        }
    }

    private static void depthFromNoneToThree() {
        CHECKS.about("Promise 9: In how many suites a node is");
        VerdictPages pages = Checks.made("=0", "{", "=0", "{", "=0", "{", "=0", "}", "=0", "}", "=0", "}", "=0");
        int[] depths = {0, 0, 1, 1, 2, 2, 3, 2, 1, 0};
        for (int node = 0; node < depths.length; node++) {
            CHECKS.due("depth(" + node + ")", depths[node], pages.depth(node));
        }
    }

    private static void depthOfNone() {
        CHECKS.about("Promise 9: In how many suites a node is; BAD when there is none.");
        for (VerdictPages pages : reports()) {
            int nodes = pages.nodes();
            CHECKS.due("depth(-1) of " + nodes, -1, pages.depth(-1));
            for (int node = nodes; node <= nodes + 24; node++) {
                CHECKS.due("depth(" + node + ") of " + nodes, -1, pages.depth(node));
            }
            for (int node : Checks.FAR) {
                CHECKS.due("depth(" + node + ") of " + nodes, -1, pages.depth(node));
            }
            for (int node = 0; node < nodes; node++) {
                CHECKS.due("depth(" + node + ") of " + nodes, node == 0 ? 0 : 1, pages.depth(node));
            }
        }
    }

    private static void nameByPlaces() {
        CHECKS.about("Promise 10: The code of the i-th character of a node's name, counted from 0");
        String[] names = {" ", "~", "~~~~~~", "      ", "abcdef", "\\#", "f"};
        VerdictPages pages = new VerdictPages();
        for (int node = 0; node < names.length; node++) {
            Checks.test(pages, names[node], 0);
        }
        for (int node = 0; node < names.length; node++) {
            for (int i = 0; i < names[node].length(); i++) {
                CHECKS.due("name(" + node + ", " + i + ")", names[node].charAt(i), pages.name(node, i));
            }
        }
    }

    private static void nameOfNoNode() {
        CHECKS.about("Promise 10: -1 when there is no such node");
        for (VerdictPages pages : reports()) {
            int nodes = pages.nodes();
            for (int i = 0; i < 6; i++) {
                CHECKS.due("name(-1, " + i + ") of " + nodes, -1, pages.name(-1, i));
                CHECKS.due("name(" + nodes + ", " + i + ") of " + nodes, -1, pages.name(nodes, i));
                CHECKS.due("name(24, " + i + ") of " + nodes, -1, pages.name(24, i));
            }
            for (int node : Checks.FAR) {
                CHECKS.due("name(" + node + ", 0) of " + nodes, -1, pages.name(node, 0));
                CHECKS.due("name(" + node + ", -1) of " + nodes, -1, pages.name(node, -1));
            }
        }
        VerdictPages begun = Checks.made("a=0");
        Checks.begin(begun, "begun");
        CHECKS.due("the name that is begun is no node's", -1, begun.name(1, 0));
    }

    private static void nameOfNoCharacter() {
        CHECKS.about("Promise 10: -1 when there is no such node or character.");
        for (String name : new String[] {"", "a", "ab", "abcde", "abcdef"}) {
            VerdictPages pages = new VerdictPages();
            Checks.test(pages, name, 0);
            Checks.open(pages, name);
            for (int node = 0; node <= 1; node++) {
                for (int i = -70; i < 0; i++) {
                    CHECKS.due("name(" + node + ", " + i + ") of '" + name + "'", -1, pages.name(node, i));
                }
                for (int i = name.length(); i < 70; i++) {
                    CHECKS.due("name(" + node + ", " + i + ") of '" + name + "'", -1, pages.name(node, i));
                }
                for (int i : Checks.FAR) {
                    CHECKS.due("name(" + node + ", " + i + ") of '" + name + "'", -1, pages.name(node, i));
                }
            }
        }
    }
}
