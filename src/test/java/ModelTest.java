import java.util.ArrayList;
import java.util.List;
import java.util.Random;

/**
 * Runs of many calls, each answer compared with that of a plain model which follows the document
 * word by word. The model reads by guessing: it knows no page but those that it writes.
 */
public final class ModelTest {
    private static final Checks CHECKS = new Checks();
    private static final int RUNS = 3000;
    private static final int CALLS = 512;
    private static final String LETTERS = "ab \\# #\\k1-";
    private static final String MARKS = "\n\n  #\\ok1234567890.-not!SKIPTODO";

    private static final class Node {
        final String name;
        final int result;
        final List<Node> row = new ArrayList<>();
        boolean isOpen;

        Node(String name, int result) {
            this.name = name;
            this.result = result;
            this.isOpen = result == 6;
        }

        boolean isSuite() {
            return result == 6;
        }

        boolean isGood() {
            return isSuite() ? row.stream().allMatch(Node::isGood) : result != 1;
        }

        int kind() {
            if (!isSuite()) {
                return result;
            }
            return isOpen ? 6 : isGood() ? 4 : 5;
        }
    }

    /** A node with what its place in the tree tells: its number is its index in the list of all. */
    private record Placed(Node node, List<String> suites) {
        String path() {
            return suites + "/" + node.name;
        }
    }

    private static final class Model {
        final Node top = new Node("", 6);

        List<Node> openChain() {
            List<Node> chain = new ArrayList<>();
            Node at = top;
            while (!at.row.isEmpty() && at.row.get(at.row.size() - 1).isOpen) {
                at = at.row.get(at.row.size() - 1);
                chain.add(at);
            }
            return chain;
        }

        List<Placed> all() {
            List<Placed> all = new ArrayList<>();
            collect(top, List.of(), all);
            return all;
        }

        private void collect(Node suite, List<String> suites, List<Placed> all) {
            for (Node node : suite.row) {
                all.add(new Placed(node, suites));
                List<String> inner = new ArrayList<>(suites);
                inner.add("<" + node.name + ">");
                collect(node, inner, all);
            }
        }

        int add(Node node) {
            List<Node> chain = openChain();
            if (all().size() == 24 || node.isSuite() && chain.size() == 3) {
                return -2;
            }
            (chain.isEmpty() ? top : chain.get(chain.size() - 1)).row.add(node);
            return all().size() - 1;
        }

        boolean close() {
            List<Node> chain = openChain();
            if (chain.isEmpty()) {
                return false;
            }
            chain.get(chain.size() - 1).isOpen = false;
            return true;
        }

        Model copy() {
            Model copy = new Model();
            copyRow(top, copy.top);
            return copy;
        }

        private static void copyRow(Node from, Node to) {
            for (Node node : from.row) {
                Node twin = new Node(node.name, node.result);
                twin.isOpen = node.isOpen;
                copyRow(node, twin);
                to.row.add(twin);
            }
        }

        List<String> page() {
            List<String> lines = new ArrayList<>();
            lines.add("TAP version 14");
            boolean bails = !openChain().isEmpty();
            addRow(top, "", !bails, lines);
            if (bails) {
                lines.add("Bail out!");
            }
            return lines;
        }

        private static void addRow(Node suite, String indent, boolean planned, List<String> lines) {
            int place = 0;
            for (Node node : suite.row) {
                place++;
                String written = node.name.replaceAll("[\\\\#]", "\\\\$0");
                if (node.isSuite()) {
                    lines.add(indent + "# Subtest: " + written);
                    addRow(node, indent + "    ", !node.isOpen, lines);
                }
                if (!node.isOpen) {
                    String[] directives = {"", "", " # SKIP", " # TODO", "", ""};
                    boolean ok = List.of(0, 2, 4).contains(node.kind());
                    lines.add(indent + (ok ? "ok " : "not ok ") + place + " - " + written
                        + directives[node.kind()]);
                }
            }
            if (planned) {
                lines.add(indent + "1.." + place);
            }
        }
    }

    private Model model = new Model();
    private final VerdictPages pages = new VerdictPages();
    private final StringBuilder begun = new StringBuilder();
    private StringBuilder page = new StringBuilder();
    private final Random random;
    private final String run;

    private ModelTest(int run) {
        this.run = "run " + run + ": ";
        this.random = new Random(run);
    }

    public static void main(String[] args) {
        for (int run = 0; run < RUNS; run++) {
            new ModelTest(run).callMany();
        }
        CHECKS.end();
    }

    private void callMany() {
        int calls = 0;
        int resets = random.nextInt(3);
        while (calls < CALLS - 200) {
            int choice = random.nextInt(40);
            if (choice < 14) {
                letter();
            } else if (choice < 20) {
                test(random.nextInt(16) == 0 ? random.nextInt(12) - 4 : random.nextInt(4));
            } else if (choice < 24) {
                open();
            } else if (choice < 27) {
                CHECKS.due(run + "close", model.close(), pages.close());
            } else if (choice < 30) {
                askNode();
                calls += 5;
            } else if (choice < 32) {
                write();
            } else if (choice < 36) {
                changePage();
                calls += 3;
                read();
            } else if (choice < 38) {
                read();
            } else if (resets > 0 && random.nextInt(4) == 0) {
                resets--;
                model = new Model();
                pages.reset();
            }
            calls++;
            CHECKS.due(run + "nodes", model.all().size(), pages.nodes());
        }
        askAll();
    }

    private void letter() {
        char c = random.nextInt(20) == 0 ? (char) random.nextInt(140)
            : LETTERS.charAt(random.nextInt(LETTERS.length()));
        boolean takes = c >= 32 && c <= 126 && begun.length() < 6;
        CHECKS.due(run + "letter", takes, pages.letter(c));
        if (takes) {
            begun.append(c);
        }
    }

    private void test(int result) {
        boolean bad = result < 0 || result > 3;
        int want = bad ? -1 : model.add(new Node(begun.toString(), result));
        CHECKS.due(run + "test", want, pages.test(result));
        if (want >= 0) {
            begun.setLength(0);
        }
    }

    private void open() {
        int want = model.add(new Node(begun.toString(), 6));
        CHECKS.due(run + "open", want, pages.open());
        if (want >= 0) {
            begun.setLength(0);
        }
    }

    private void askNode() {
        ask(random.nextInt(27) - 1, random.nextInt(8) - 1);
    }

    private void ask(int number, int i) {
        List<Placed> all = model.all();
        if (number < 0 || number >= all.size()) {
            CHECKS.due(run + "kind of none", -1, pages.kind(number));
            CHECKS.due(run + "depth of none", -1, pages.depth(number));
            CHECKS.due(run + "name of none", -1, pages.name(number, i));
            CHECKS.due(run + "attempts of none", -1, pages.attempts(number));
            CHECKS.due(run + "flaky of none", false, pages.flaky(number));
            return;
        }
        Placed placed = all.get(number);
        String name = placed.node.name;
        CHECKS.due(run + "kind", placed.node.kind(), pages.kind(number));
        CHECKS.due(run + "depth", placed.suites.size(), pages.depth(number));
        CHECKS.due(run + "name", i >= 0 && i < name.length() ? name.charAt(i) : -1, pages.name(number, i));
        askAttempts(placed, number, all);
    }

    private void askAttempts(Placed placed, int number, List<Placed> all) {
        List<Integer> results = new ArrayList<>();
        for (Placed other : all) {
            if (!other.node.isSuite() && other.path().equals(placed.path())) {
                results.add(other.node.result);
            }
        }
        boolean isTest = !placed.node.isSuite();
        boolean flaky = isTest && results.contains(1) && results.lastIndexOf(0) > results.indexOf(1);
        CHECKS.due(run + "attempts", isTest ? results.size() : -1, pages.attempts(number));
        CHECKS.due(run + "flaky", flaky, pages.flaky(number));
    }

    private void askAll() {
        List<Placed> all = model.all();
        for (int number = 0; number < all.size(); number++) {
            ask(number, random.nextInt(6));
        }
    }

    private void write() {
        page = new StringBuilder(String.join("\n", model.page()) + "\n");
        CHECKS.due(run + "write", page.length(), pages.write());
        CHECKS.due(run + "page", page.toString(), Checks.pageOf(pages));
    }

    private void changePage() {
        if (page.length() == 0 || random.nextInt(2) == 0) {
            write();
        }
        for (int changes = random.nextInt(3); changes >= 0; changes--) {
            char c = MARKS.charAt(random.nextInt(MARKS.length()));
            int i = random.nextInt(page.length() + 2) - 1;
            int choice = random.nextInt(6);
            if (choice == 0) {
                boolean cuts = i >= 0 && i <= page.length();
                CHECKS.due(run + "cut", cuts, pages.cut(i));
                page.setLength(cuts ? i : page.length());
            } else if (choice == 1) {
                CHECKS.due(run + "put", page.length() < 3000, pages.put(c));
                page.append(page.length() < 3000 ? String.valueOf(c) : "");
            } else if (choice == 2) {
                cutToLines();
            } else if (choice == 3) {
                bailAfterCut();
            } else {
                poke(i, c);
            }
        }
        CHECKS.due(run + "changed page", page.toString(), Checks.pageOf(pages));
    }

    private void poke(int i, char c) {
        boolean pokes = i >= 0 && i < page.length();
        CHECKS.due(run + "poke", pokes, pages.poke(i, c));
        if (pokes) {
            page.setCharAt(i, c);
        }
    }

    private void cutToLines() {
        int end = page.lastIndexOf("\n", random.nextInt(page.length() + 1)) + 1;
        CHECKS.due(run + "cut to lines", true, pages.cut(end));
        page.setLength(end);
    }

    private void bailAfterCut() {
        cutToLines();
        for (char c : "Bail out!\n".toCharArray()) {
            CHECKS.due(run + "put", true, pages.put(c));
            page.append(c);
        }
    }

    private void read() {
        Model[] found = new Model[1];
        int want = answerOfRead(found);
        CHECKS.due(run + "read of\n" + page + "<", want, pages.read());
        if (want == 0) {
            model = found[0];
        }
    }

    /** By the words of the promise, with guessed reports as those that there may be. */
    private int answerOfRead(Model[] found) {
        String text = page.toString();
        boolean ended = text.isEmpty() || text.endsWith("\n");
        List<String> lines = new ArrayList<>(List.of(text.split("\n", -1)));
        if (ended) {
            lines.remove(lines.size() - 1);
        }
        int whole = ended ? lines.size() : lines.size() - 1;
        Model known = new Model();
        for (int k = 1; k <= lines.size(); k++) {
            Model next = k <= whole ? guess(known, lines.subList(0, k)) : null;
            if (next == null) {
                return -k;
            }
            known = next;
        }
        // A report whose page goes on after these lines may be known where another's ends with them.
        Model fits = fitting(known, lines);
        found[0] = fits;
        return fits == null ? -(lines.size() + 1) : 0;
    }

    private static Model fitting(Model known, List<String> lines) {
        for (Model candidate : candidates(known, lines.isEmpty() ? "" : lines.get(lines.size() - 1))) {
            if (candidate.page().equals(lines)) {
                return candidate;
            }
        }
        return null;
    }

    private static Model guess(Model known, List<String> lines) {
        for (Model candidate : candidates(known, lines.get(lines.size() - 1))) {
            List<String> page = candidate.page();
            if (page.size() >= lines.size() && page.subList(0, lines.size()).equals(lines)) {
                return candidate;
            }
        }
        return null;
    }

    /** The known report, and those that one call makes of it with a name that the line may hold. */
    private static List<Model> candidates(Model known, String line) {
        List<Model> candidates = new ArrayList<>();
        candidates.add(known);
        for (String mark : new String[] {" - ", ": "}) {
            int begin = line.indexOf(mark);
            if (begin >= 0) {
                String rest = line.substring(begin + mark.length());
                for (String written : new String[] {rest, rest.replaceAll(" # (SKIP|TODO)$", "")}) {
                    String name = written.replaceAll("\\\\([\\\\#])", "$1");
                    for (int result : new int[] {0, 1, 2, 3, 6}) {
                        Model candidate = known.copy();
                        if (name.length() <= 6 && candidate.add(new Node(name, result)) >= 0) {
                            candidates.add(candidate);
                        }
                    }
                }
            }
        }
        Model closed = known.copy();
        if (closed.close()) {
            candidates.add(closed);
        }
        return candidates;
    }
}
