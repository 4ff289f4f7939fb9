/** Counts what is not as due; each test ends with its exit code. */
final class Check {
    private int wrong = 0;
    private int done = 0;

    void due(String call, long got, long want) {
        done++;
        if (got != want) {
            wrong++;
            System.out.println(call + " answered " + got + ", due is " + want);
        }
    }

    /** Feeds a text and reads it. */
    static int tell(OrchardWall wall, String text) {
        for (char letter : text.toCharArray()) {
            wall.feed(letter);
        }
        return wall.orchard();
    }

    static OrchardWall told(String text) {
        OrchardWall wall = new OrchardWall();
        tell(wall, text);
        return wall;
    }

    /** A row of ints with these items. */
    static void fill(OrchardWall wall, int row, int... items) {
        wall.row(row, 2, items.length);
        for (int i = 0; i < items.length; i++) {
            wall.set(row, i, items[i]);
        }
    }

    void end() {
        System.out.println(done + " answers looked at, " + wrong + " wrong");
        if (wrong > 0 || done == 0) {
            System.exit(1);
        }
    }
}
