/** Promise 7: select. */
public final class SelectTest {
    public static void main(String[] args) {
        rectangles();
        kinds();
        ellipses();
        roundKinds();
        isStep();
        refuses();
        Check.finish();
    }

    private static void checkSelected(String what, TileStudio studio, String... rows) {
        studio.fill(0, 1);
        for (int y = 0; y < rows.length; y++) {
            for (int x = 0; x < rows[y].length(); x++) {
                int due = rows[y].charAt(x) == '#' ? 1 : 0;
                Check.same(what + ", place " + x + ", " + y, studio.dot(0, 0, x, y), due);
            }
        }
        studio.undo();
    }

    private static void rectangles() {
        TileStudio studio = Make.studio(5, 3);
        Check.same("7: rectangle", studio.select(0, 1, 0, Make.size(2, 3)), 6);
        checkSelected("7: rectangle", studio, ".##..", ".##..", ".##..");
        Check.same("7: wide, not high", studio.select(0, 0, 1, Make.size(4, 1)), 4);
        checkSelected("7: wide, not high", studio, ".....", "####.", ".....");
        Check.same("7: partly outside", studio.select(0, -2, -1, Make.size(4, 3)), 4);
        checkSelected("7: partly outside", studio, "##...", "##...", ".....");
        Check.same("7: beyond the other edges", studio.select(0, 3, 2, Make.size(1000, 1000)), 2);
        checkSelected("7: beyond the other edges", studio, ".....", ".....", "...##");
        Check.same("7: w 0", studio.select(0, 0, 0, Make.size(0, 3)), 0);
        Check.same("7: h 0", studio.select(0, 0, 0, Make.size(5, 0)), 0);
        Check.same("7: wholly outside", studio.select(0, 5, 0, Make.size(3, 3)), 0);
        Check.same("7: far to the left, it ends before", studio.select(0, -1000, 0, Make.size(1000, 3)), 0);
        Check.same("7: it ends in the picture", studio.select(0, -999, -998, Make.size(1000, 1000)), 2);
        Check.same("7: far to the right", studio.select(0, 1000, 1000, Make.size(1000, 1000)), 0);
    }

    private static void kinds() {
        TileStudio studio = Make.studio(5, 3);
        studio.select(0, 0, 0, Make.size(3, 2));
        Check.same("7: they, too", studio.select(1, 2, 1, Make.size(2, 2)), 9);
        checkSelected("7: they, too", studio, "###..", "####.", "..##.");
        Check.same("7: no more", studio.select(2, 1, 1, Make.size(2, 1)), 7);
        checkSelected("7: no more", studio, "###..", "#..#.", "..##.");
        Check.same("7: only these stay", studio.select(3, 2, 0, Make.size(3, 2)), 2);
        checkSelected("7: only these stay", studio, "..#..", "...#.", ".....");
        Check.same("7: these alone", studio.select(0, 0, 2, Make.size(1, 1)), 1);
        checkSelected("7: these alone", studio, ".....", ".....", "#....");
        Check.same("7: no place more", studio.select(1, 0, 0, 0), 1);
        Check.same("7: none less", studio.select(2, 0, 0, 0), 1);
        Check.same("7: none stays", studio.select(3, 0, 0, 0), 0);
    }

    private static void ellipses() {
        TileStudio studio = Make.studio(6, 5);
        // w = h = 5: (2a - 4)^2 + (2b - 4)^2 at most 25 leaves out those with 16 + 16 alone.
        Check.same("7: disc of 5", studio.select(10, 0, 0, Make.size(5, 5)), 21);
        checkSelected("7: disc of 5", studio, ".###..", "#####.", "#####.", "#####.", ".###..");
        // w = 6, h = 2: (2a - 5)^2 * 4 + 36 at most 144, so (2a - 5)^2 at most 27.
        Check.same("7: 6 by 2", studio.select(10, 0, 1, Make.size(6, 2)), 12);
        checkSelected("7: 6 by 2", studio, "......", "######", "######", "......", "......");
        // w = 6, h = 3: the middle row (2a - 5)^2 * 9 at most 324: all; the others 36 * 4 less: at most 20.
        Check.same("7: 6 by 3", studio.select(10, 0, 0, Make.size(6, 3)), 14);
        checkSelected("7: 6 by 3", studio, ".####.", "######", ".####.", "......", "......");
        // w = h = 4: 9 + 9 is more than 16, 9 + 1 is not.
        Check.same("7: disc of 4", studio.select(10, 1, 0, Make.size(4, 4)), 12);
        checkSelected("7: disc of 4", studio, "..##..", ".####.", ".####.", "..##..", "......");
        Check.same("7: disc of 1", studio.select(10, 5, 4, Make.size(1, 1)), 1);
        Check.same("7: disc of w 0", studio.select(10, 0, 0, Make.size(0, 4)), 0);
        Check.same("7: disc of h 0", studio.select(10, 0, 0, Make.size(4, 0)), 0);
        Check.same("7: partly outside", studio.select(10, -2, -2, Make.size(5, 5)), 8);
        checkSelected("7: partly outside", studio, "###...", "###...", "##....", "......", "......");
        Check.same("7: the middle of a great one", studio.select(10, -500, -500, Make.size(1000, 1000)), 30);
        Check.same("7: the corner of a great one", studio.select(10, 0, 0, Make.size(1000, 1000)), 0);
    }

    private static void roundKinds() {
        TileStudio studio = Make.studio(4, 4);
        studio.select(0, 0, 0, Make.size(1, 4));
        Check.same("7: a disc, too", studio.select(11, 0, 0, Make.size(4, 4)), 14);
        checkSelected("7: a disc, too", studio, "###.", "####", "####", "###.");
        Check.same("7: a disc no more", studio.select(12, 1, 0, Make.size(4, 4)), 6);
        checkSelected("7: a disc no more", studio, "##..", "#...", "#...", "##..");
        Check.same("7: of a disc these", studio.select(13, -2, 0, Make.size(4, 4)), 4);
        checkSelected("7: of a disc these", studio, "#...", "#...", "#...", "#...");
        Check.same("7: a disc alone", studio.select(10, 0, 0, Make.size(4, 4)), 12);
    }

    private static void isStep() {
        TileStudio studio = Make.studio(4, 4);
        studio.select(0, 0, 0, Make.size(24, 24));
        Check.same("7: a step, even if nothing changes", studio.count(1), 1);
        studio.select(2, 0, 0, Make.size(2, 2));
        Check.same("7: selected", studio.count(4), 12);
        studio.undo();
        Check.same("7: taken back", studio.count(4), 16);
        studio.redo();
        Check.same("7: done again", studio.count(4), 12);
    }

    private static void refuses() {
        TileStudio studio = Make.studio(4, 4);
        int one = Make.size(1, 1);
        int[] wrongKinds = {-1, 4, 9, 14, 20, 5, 100, -10, Integer.MIN_VALUE, Integer.MAX_VALUE};
        for (int kind : wrongKinds) {
            Check.refusesNumber("7: kind " + kind, () -> studio.select(kind, 0, 0, one));
        }
        int[] wrongPlaces = {-1001, 1001, Integer.MIN_VALUE, Integer.MAX_VALUE};
        for (int place : wrongPlaces) {
            Check.refusesNumber("7: x " + place, () -> studio.select(0, place, 0, one));
            Check.refusesNumber("7: y " + place, () -> studio.select(0, 0, place, one));
        }
        int[] wrongSizes = {1001, 0x8000, 0xFFFF};
        for (int size : wrongSizes) {
            Check.refusesNumber("7: w " + size, () -> studio.select(0, 0, 0, Make.size(size, 1)));
            Check.refusesNumber("7: h " + size, () -> studio.select(0, 0, 0, Make.size(1, size)));
        }
        Check.refusesNumber("7: size -1", () -> studio.select(0, 0, 0, -1));
        Check.same("7: refused, no step", studio.count(1), 0);
        Check.same("7: refused, all stay", studio.count(4), 16);
        studio.select(13, -1000, -1000, Make.size(1000, 1000));
        studio.select(0, 1000, 1000, Make.size(1000, 1000));
        Check.same("7: the edges are taken", studio.count(1), 2);
    }
}
