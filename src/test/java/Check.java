/** Counts what is not as due; each test ends with its exit code. */
final class Check {
    private int wrong = 0;
    private int done = 0;
    private String saying = "";

    void due(String call, long got, long want) {
        done++;
        if (got != want) {
            wrong++;
            System.out.println(saying + call + " answered " + got + ", due is " + want);
        }
    }

    void holds(String what, boolean isSo) {
        due(what, isSo ? 1 : 0, 1);
    }

    /** The words of the document that the answers from here on hold it to; DocumentTest looks for these calls. */
    void says(String section, String words) {
        saying = section + ", \"" + words + "\": ";
        holds("the document says so", Document.section(section).contains(words));
    }

    /** Feeds a text and reads it. */
    static int tell(OrchardWall wall, String text) {
        feed(wall, text);
        return wall.orchard();
    }

    static void feed(OrchardWall wall, String text) {
        for (char letter : text.toCharArray()) {
            wall.feed(letter);
        }
    }

    static OrchardWall told(String text) {
        OrchardWall wall = new OrchardWall();
        tell(wall, text);
        return wall;
    }

    /** A row of ints with these items. */
    static void fill(OrchardWall wall, int row, int... items) {
        fillLane(wall, row, 2, items);
    }

    static void fillLane(OrchardWall wall, int row, int lane, int... items) {
        wall.row(row, lane, items.length);
        for (int i = 0; i < items.length; i++) {
            wall.set(row, i, items[i]);
        }
    }

    void end() {
        System.out.println(done + " answers looked at, " + wrong + " wrong");
        if (wrong > 0 || done == 0) {
            System.exit(1);
        }
    }
}
