import java.util.ArrayList;
import java.util.List;
import java.util.Map;
import java.util.TreeMap;
import java.util.TreeSet;

/**
 * Promise 12 by its own words, for every page of few lines: all small reports are made and written,
 * and what read answers is held against the set of the pages and that of their beginnings. (That
 * write makes the right pages is seen by WriteTest and ModelTest.)
 */
public final class ReadAllSmallTest {
    private static final Checks CHECKS = new Checks();
    // A line adds one node at most, so the beginnings of this many lines are those of all reports.
    private static final int MOST_NODES = 4;
    private static final String[] NAMES = {"", " "};

    /** The pages, each with what the face tells of the nodes of its report. */
    private final Map<String, String> reports = new TreeMap<>();
    private final TreeSet<String> beginnings = new TreeSet<>();
    private final TreeSet<String> lines = new TreeSet<>();

    public static void main(String[] args) {
        ReadAllSmallTest test = new ReadAllSmallTest();
        test.makeReports(List.of(), 0);
        test.makeBeginnings();
        test.readAll();
        CHECKS.end();
    }

    /** All reports that calls after these ones make. */
    private void makeReports(List<String> marks, int nodes) {
        VerdictPages pages = Checks.made(marks.toArray(new String[0]));
        reports.put(Checks.writtenPageOf(pages), Checks.tellNodes(pages));
        boolean isOpen = pages.close();
        if (isOpen) {
            makeReports(with(marks, "}"), nodes);
        }
        if (nodes == MOST_NODES) {
            return;
        }
        int open = 0;
        for (String mark : marks) {
            open += mark.equals("}") ? -1 : mark.endsWith("{") ? 1 : 0;
        }
        for (String name : NAMES) {
            for (int result = 0; result < 4; result++) {
                makeReports(with(marks, name + "=" + result), nodes + 1);
            }
            if (open < 3) {
                makeReports(with(marks, name + "{"), nodes + 1);
            }
        }
    }

    private static List<String> with(List<String> marks, String mark) {
        List<String> more = new ArrayList<>(marks);
        more.add(mark);
        return more;
    }

    private void makeBeginnings() {
        for (String page : reports.keySet()) {
            int begin = 0;
            beginnings.add("");
            while (begin < page.length()) {
                int end = page.indexOf('\n', begin) + 1;
                lines.add(page.substring(begin, end));
                beginnings.add(page.substring(0, end));
                begin = end;
            }
        }
        lines.add("\n");
    }

    private void readAll() {
        int reads = 0;
        for (String beginning : beginnings) {
            int count = (int) beginning.chars().filter(c -> c == '\n').count();
            // The title adds no node, so a page may have one line more than nodes.
            if (count <= MOST_NODES) {
                dueAnswer(withPage(beginning), beginning, count);
                for (String line : lines) {
                    readWithLine(beginning, line, count + 1);
                    reads++;
                }
            }
        }
        CHECKS.due("many pages were read", true, reads > 100000);
    }

    private static VerdictPages withPage(String page) {
        VerdictPages pages = new VerdictPages();
        Checks.setPage(pages, page);
        return pages;
    }

    private void readWithLine(String beginning, String line, int k) {
        VerdictPages pages = withPage(beginning + line.substring(0, line.length() - 1));
        if (line.length() > 1) {
            CHECKS.due("read of a line not ended\n" + beginning + line, -k, pages.read());
        }
        pages.put('\n');
        if (beginnings.contains(beginning + line)) {
            dueAnswer(pages, beginning + line, k);
        } else {
            CHECKS.due("read of\n" + beginning + line, -k, pages.read());
        }
    }

    /** The answer for a page that is the beginning of one, or the whole. */
    private void dueAnswer(VerdictPages pages, String page, int count) {
        String report = reports.get(page);
        CHECKS.due("read of\n" + page, report == null ? -(count + 1) : 0, pages.read());
        if (report != null) {
            CHECKS.due("the nodes read from\n" + page, report, Checks.tellNodes(pages));
        }
    }
}
