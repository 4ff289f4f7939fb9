import java.util.ArrayList;
import java.util.List;

/** All that a wall can be asked, in one list: of two that are alike the lists are the same. It uses the wall up. */
final class Look {
    private final OrchardWall wall;
    private final List<String> seen = new ArrayList<>();
    // As they were counted last: a wall is good for 512 calls, and 24 acts take many of them.
    private int trees = 0;
    private int raiders = 0;

    private Look(OrchardWall wall) {
        this.wall = wall;
    }

    static List<String> at(OrchardWall wall) {
        Look look = new Look(wall);
        look.counts();
        look.book();
        look.orchardNow();
        look.rows();
        look.acts();
        look.images();
        look.tape();
        return look.seen;
    }

    private void add(String name, long answer) {
        seen.add(name + " " + answer);
    }

    private void counts() {
        for (int what = 0; what <= 8; what++) {
            add("count " + what, wall.count(what));
        }
        add("fault", wall.fault());
        for (int i = 0; i < 6; i++) {
            add("trace " + i, wall.trace(i));
        }
    }

    private void book() {
        add("quietest", wall.quietest());
        for (int hour = 0; hour < 24; hour += 4) {
            add("sleep, above " + hour, wall.sleep(hour, 0));
            add("sleep, below " + hour, wall.sleep(hour, 1));
        }
    }

    private void orchardNow() {
        for (int what = 0; what <= 3; what++) {
            add("ahead " + what, wall.ahead(what));
        }
        add("hens", wall.count(3));
        trees = wall.count(1);
        for (int tree = 0; tree < trees; tree++) {
            add("cell of " + tree, wall.tree(tree, 0));
            add("worth of " + tree, wall.tree(tree, 2));
        }
        raiders = wall.count(2);
        for (int raider = 0; raider < raiders; raider++) {
            add("full of " + raider, wall.raider(raider, 0));
            add("kind of " + raider, wall.kind(raider));
        }
        whatActsChange();
    }

    private void whatActsChange() {
        add("raids", wall.count(4));
        add("got", wall.count(5));
        for (int tree = 0; tree < trees; tree++) {
            add("apples of " + tree, wall.tree(tree, 1));
        }
        for (int raider = 0; raider < raiders; raider++) {
            for (int what = 1; what <= 4; what++) {
                add("raider " + raider + ", " + what, wall.raider(raider, what));
            }
        }
    }

    private void rows() {
        for (int row = 0; row < 8; row++) {
            int there = wall.copy(row, 0, row, 0, 0);
            add("row " + row, there);
            if (there == 0) {
                itemsOf(row);
            }
        }
    }

    private void itemsOf(int row) {
        for (int i = 0; i < 2; i++) {
            add("days of row " + row + " from " + i, wall.days(row, i, 9));
            add("their value, above", wall.daysValue(row, i, 9, -1, 0));
            add("their value, below", wall.daysValue(row, i, 9, -1, 1));
        }
        add("lane of row " + row, wall.set(row, 0, 70000));
        add("size of row " + row, wall.drop(row));
    }

    private void acts() {
        int acts = wall.count(7);
        for (int turn = 0; turn < acts; turn++) {
            add("undo", wall.undo());
            whatActsChange();
        }
        add("undo", wall.undo());
    }

    private void images() {
        for (int k = 0; k < 2; k++) {
            add("restore " + k, wall.restore(k));
            orchardNow();
        }
    }

    private void tape() {
        add("orchard", wall.orchard());
        add("fault", wall.fault());
        orchardNow();
    }
}
