import java.util.NoSuchElementException;

/** Promises 1 to 6: a new object, make, layer, drop, move, mode; and 25: count. */
public final class PictureTest {
    private static final int RED = 0xFF0000FF;
    private static final int GREEN = 0x00FF00FF;
    private static final int BLUE = 0x0000FFFF;

    public static void main(String[] args) {
        newObject();
        newObjectRefuses();
        newBrush();
        make();
        makeKeeps();
        makeRefuses();
        layer();
        layerRefuses();
        drop();
        move();
        moveRefuses();
        mode();
        modeRefuses();
        count();
        countTiles();
        countTilesAtTheirCorners();
        Check.finish();
    }

    private static void newObject() {
        TileStudio studio = new TileStudio();
        for (int what = 0; what <= 5; what++) {
            Check.same("1: count(" + what + ") without a picture", studio.count(what), 0);
        }
        Check.same("1: count(6) without a picture", studio.count(6), -1);
        Check.same("1: count(-1) without a picture", studio.count(-1), -1);
        Check.holds("1: undo without a picture", !studio.undo());
        Check.holds("1: redo without a picture", !studio.redo());
        Check.refuses("1: open without a file", NoSuchElementException.class, studio::open);
    }

    private static void newObjectRefuses() {
        TileStudio studio = new TileStudio();
        Check.refusesNumber("3: layer without a picture", () -> studio.layer(0));
        Check.refusesNumber("4: drop without a picture", () -> studio.drop(0));
        Check.refusesNumber("5: move without a picture", () -> studio.move(0, 0));
        Check.refusesNumber("6: mode without a picture", () -> studio.mode(0, 0, 0, true));
        Check.refusesNumber("7: select without a picture", () -> studio.select(0, 0, 0, 0));
        Check.refusesNumber("9: fill without a picture", () -> studio.fill(0, 0));
        Check.refusesNumber("10: gradient without a picture", () -> studio.gradient(0, 0, 0, 0));
        Check.refusesNumber("11: stroke without a picture", () -> studio.stroke(0, 0, 0));
        Check.refusesNumber("12: flood without a picture", () -> studio.flood(0, 0, 0, 0, 0));
        Check.refusesNumber("13: copy without a picture", () -> studio.copy(0));
        Check.refusesNumber("14: paste without a picture", () -> studio.paste(0, 0, 0));
        Check.refusesNumber("15: mirror without a picture", () -> studio.mirror(0, 0));
        Check.refusesNumber("16: shift without a picture", () -> studio.shift(0, 0, 0));
        Check.refusesNumber("17: blur without a picture", () -> studio.blur(0, 1));
        Check.refusesNumber("20: save without a picture", () -> studio.save(-1));
        Check.refusesNumber("22: dot without a picture", () -> studio.dot(0, 0, 0, 0));
        Check.refusesNumber("23: view without a picture", () -> studio.view(0, 0, 0));
        Check.refusesNumber("24: histogram without a picture", () -> studio.histogram(0, 0, 0));
        studio.brush(1, 7);
    }

    private static void newBrush() {
        TileStudio studio = Make.studio(3, 1);
        Make.putRow(studio, 0, 0, RED, 0x12345600, RED);
        studio.stroke(0, Make.at(1, 0), Make.at(1, 0));
        // A clear dot blended onto a clear one is 0; radius 0 leaves the neighbours alone.
        Make.checkRow("1: the new brush", studio, 0, 0, RED, 0, RED);
        Check.refuses("1: nothing was copied", NoSuchElementException.class, () -> studio.paste(0, 0, 0));
    }

    private static void make() {
        TileStudio studio = Make.studio(24, 1);
        Check.same("2: size", studio.count(5), 240100);
        Check.same("2: one layer", studio.count(0), 1);
        Check.same("2: all selected", studio.count(4), 24);
        Check.same("2: no tiles", studio.count(3), 0);
        studio.fill(0, RED);
        Check.sameDot("2: mode 0, opacity 255, visible", studio.view(0, 23, 0), RED);
        studio.mode(0, 3, 7, false);
        studio.layer(0);
        studio.select(0, 0, 0, 0);
        studio.undo();
        studio.make(1, 24);
        Check.same("2: no steps back", studio.count(1), 0);
        Check.same("2: no steps again", studio.count(2), 0);
        Check.holds("2: undo after make", !studio.undo());
        Check.holds("2: redo after make", !studio.redo());
        Check.same("2: one layer again", studio.count(0), 1);
        Check.same("2: all selected again", studio.count(4), 24);
        Check.same("2: the new size", studio.count(5), 12400);
        Check.sameDot("2: dots 0", studio.dot(0, 0, 0, 23), 0);
        studio.fill(0, GREEN);
        Check.sameDot("2: the new layer is seen whole", studio.view(0, 0, 0), GREEN);
    }

    private static void makeKeeps() {
        TileStudio studio = Make.studio(2, 2);
        studio.fill(0, RED);
        studio.copy(0);
        studio.brush(BLUE, 1);
        studio.save(-1);
        studio.make(3, 1);
        Check.same("2: what was copied stays", studio.paste(0, 1, 0), 2);
        Make.checkRow("2: pasted", studio, 0, 0, 0, RED, RED);
        studio.stroke(0, Make.at(0, 0), Make.at(0, 0));
        Make.checkRow("2: the brush stays", studio, 0, 0, BLUE, BLUE, RED);
        studio.open();
        Check.same("2: the file stays", studio.count(5), 20200);
        Check.sameDot("2: the file's dots", studio.dot(0, 0, 1, 1), RED);
    }

    private static void makeRefuses() {
        TileStudio studio = Make.studio(5, 6);
        studio.fill(0, RED);
        Check.refusesNumber("2: width 0", () -> studio.make(0, 1));
        Check.refusesNumber("2: width 25", () -> studio.make(25, 1));
        Check.refusesNumber("2: height 0", () -> studio.make(1, 0));
        Check.refusesNumber("2: height 25", () -> studio.make(1, 25));
        Check.refusesNumber("2: width least", () -> studio.make(Integer.MIN_VALUE, 1));
        Check.refusesNumber("2: height greatest", () -> studio.make(1, Integer.MAX_VALUE));
        Check.same("2: a refusal changes no size", studio.count(5), 50600);
        Check.same("2: a refusal forgets no step", studio.count(1), 1);
        Check.sameDot("2: a refusal changes no dot", studio.dot(0, 0, 4, 5), RED);
    }

    private static void layer() {
        TileStudio studio = Make.studio(2, 1);
        studio.fill(0, RED);
        studio.mode(0, 0, 255, false);
        studio.layer(0);
        Check.same("3: two layers", studio.count(0), 2);
        Check.sameDot("3: the new one is at 0", studio.dot(0, 0, 0, 0), 0);
        Check.sameDot("3: the old one is higher", studio.dot(1, 0, 0, 0), RED);
        studio.fill(0, GREEN);
        Check.sameDot("3: the new one is visible, the old one is not", studio.view(0, 0, 0), GREEN);
        studio.layer(2);
        studio.fill(2, BLUE);
        Check.sameDot("3: at the top", studio.view(0, 1, 0), BLUE);
        Check.sameDot("3: the middle one stays", studio.dot(1, 0, 1, 0), RED);
        Check.same("3: each is a step", studio.count(1), 6);
        TileStudio between = Make.studio(1, 1);
        between.fill(0, RED);
        between.layer(1);
        between.fill(1, GREEN);
        between.layer(1);
        Check.sameDot("3: between, below", between.dot(0, 0, 0, 0), RED);
        Check.sameDot("3: between, the new one", between.dot(1, 0, 0, 0), 0);
        Check.sameDot("3: between, above", between.dot(2, 0, 0, 0), GREEN);
    }

    private static void layerRefuses() {
        TileStudio studio = Make.studio(1, 1);
        Check.refusesNumber("3: position -1", () -> studio.layer(-1));
        Check.refusesNumber("3: position 2 of 1", () -> studio.layer(2));
        Check.same("3: refused, no step", studio.count(1), 0);
        studio.layer(1);
        studio.layer(2);
        Check.refuses("3: a fourth", IllegalStateException.class, () -> studio.layer(0));
        Check.refuses("3: a fourth at the top", IllegalStateException.class, () -> studio.layer(3));
        Check.refusesNumber("3: position 4 comes before three layers", () -> studio.layer(4));
        Check.refusesNumber("3: position -1 comes before three layers", () -> studio.layer(-1));
        Check.same("3: three stay", studio.count(0), 3);
        Check.same("3: two steps stay", studio.count(1), 2);
    }

    private static TileStudio threeLayers() {
        TileStudio studio = Make.studio(1, 1);
        studio.fill(0, RED);
        studio.layer(1);
        studio.fill(1, GREEN);
        studio.layer(2);
        studio.fill(2, BLUE);
        return studio;
    }

    private static void checkLayers(String what, TileStudio studio, int... due) {
        Check.same(what + ", how many", studio.count(0), due.length);
        for (int i = 0; i < due.length; i++) {
            Check.sameDot(what + ", layer " + i, studio.dot(i, 0, 0, 0), due[i]);
        }
    }

    private static void drop() {
        for (int gone = 0; gone < 3; gone++) {
            TileStudio studio = threeLayers();
            studio.drop(gone);
            int[][] due = {{GREEN, BLUE}, {RED, BLUE}, {RED, GREEN}};
            checkLayers("4: drop(" + gone + ")", studio, due[gone]);
            studio.undo();
            checkLayers("4: drop(" + gone + ") taken back", studio, RED, GREEN, BLUE);
        }
        TileStudio studio = threeLayers();
        Check.refusesNumber("4: layer 3", () -> studio.drop(3));
        Check.refusesNumber("4: layer -1", () -> studio.drop(-1));
        studio.drop(2);
        Check.refusesNumber("4: layer 2 of two", () -> studio.drop(2));
        studio.drop(1);
        Check.refuses("4: the only one", IllegalStateException.class, () -> studio.drop(0));
        Check.refusesNumber("4: no such layer comes first", () -> studio.drop(1));
        checkLayers("4: refused", studio, RED);
    }

    private static void move() {
        int[] dots = {RED, GREEN, BLUE};
        int[][][] order = {
            {{0, 1, 2}, {1, 0, 2}, {1, 2, 0}},
            {{1, 0, 2}, {0, 1, 2}, {0, 2, 1}},
            {{2, 0, 1}, {0, 2, 1}, {0, 1, 2}}};
        for (int from = 0; from < 3; from++) {
            for (int to = 0; to < 3; to++) {
                TileStudio studio = threeLayers();
                int steps = studio.count(1);
                studio.move(from, to);
                int[] due = order[from][to];
                checkLayers("5: move(" + from + ", " + to + ")", studio, dots[due[0]], dots[due[1]], dots[due[2]]);
                Check.same("5: a step, even if nothing moves", studio.count(1), steps + 1);
            }
        }
        TileStudio studio = Make.studio(1, 1);
        studio.fill(0, RED);
        studio.layer(1);
        studio.fill(1, GREEN);
        studio.mode(1, 0, 255, false);
        studio.move(1, 0);
        Check.sameDot("5: the visibility goes along", studio.view(0, 0, 0), RED);
    }

    private static void moveRefuses() {
        TileStudio studio = threeLayers();
        studio.drop(2);
        int steps = studio.count(1);
        Check.refusesNumber("5: from -1", () -> studio.move(-1, 0));
        Check.refusesNumber("5: from 2 of two", () -> studio.move(2, 0));
        Check.refusesNumber("5: to -1", () -> studio.move(0, -1));
        Check.refusesNumber("5: to 2 of two", () -> studio.move(0, 2));
        Check.same("5: refused, no step", studio.count(1), steps);
        checkLayers("5: refused", studio, RED, GREEN);
    }

    private static void mode() {
        TileStudio studio = Make.studio(1, 1);
        studio.fill(0, 0x646464FF);
        studio.layer(1);
        studio.fill(1, 0xC8C8C8FF);
        studio.mode(1, 3, 255, true);
        Check.sameDot("6: darken", studio.view(0, 0, 0), 0x646464FF);
        studio.mode(1, 3, 255, false);
        studio.mode(0, 0, 0, true);
        Check.sameDot("6: opacity 0 below and nothing above", studio.view(0, 0, 0), 0);
        studio.undo();
        Check.sameDot("6: the upper one is not visible", studio.view(0, 0, 0), 0x646464FF);
        studio.undo();
        studio.mode(1, 5, 255, true);
        Check.sameDot("6: add", studio.view(0, 0, 0), 0xFFFFFFFF);
        Check.sameDot("6: the dots stay", studio.dot(1, 0, 0, 0), 0xC8C8C8FF);
        studio.mode(1, 5, 255, true);
        Check.same("6: a step, even if nothing changes", studio.count(1), 6);
    }

    private static void modeRefuses() {
        TileStudio studio = Make.studio(1, 1);
        studio.fill(0, RED);
        Check.refusesNumber("6: layer 1", () -> studio.mode(1, 0, 0, false));
        Check.refusesNumber("6: layer -1", () -> studio.mode(-1, 0, 0, false));
        Check.refusesNumber("6: mode -1", () -> studio.mode(0, -1, 0, false));
        Check.refusesNumber("6: mode 6", () -> studio.mode(0, 6, 0, false));
        Check.refusesNumber("6: opacity -1", () -> studio.mode(0, 0, -1, false));
        Check.refusesNumber("6: opacity 256", () -> studio.mode(0, 0, 256, false));
        Check.same("6: refused, no step", studio.count(1), 1);
        Check.sameDot("6: refused", studio.view(0, 0, 0), RED);
        studio.mode(0, 5, 0, true);
        studio.mode(0, 0, 255, true);
        Check.same("6: the edges are taken", studio.count(1), 3);
    }

    private static void count() {
        TileStudio studio = Make.studio(24, 24);
        Check.same("25: the greatest size", studio.count(5), 242400);
        Check.same("25: selected", studio.count(4), 576);
        studio.layer(1);
        studio.select(0, 0, 0, Make.size(3, 2));
        studio.layer(0);
        studio.undo();
        Check.same("25: layers", studio.count(0), 2);
        Check.same("25: back", studio.count(1), 2);
        Check.same("25: again", studio.count(2), 1);
        Check.same("25: selected then", studio.count(4), 6);
        Check.same("25: what 6", studio.count(6), -1);
        Check.same("25: what -1", studio.count(-1), -1);
        Check.same("25: what least", studio.count(Integer.MIN_VALUE), -1);
        Check.same("25: what greatest", studio.count(Integer.MAX_VALUE), -1);
        Check.same("25: the least size", Make.studio(1, 1).count(5), 10100);
    }

    private static void countTiles() {
        TileStudio studio = Make.studio(17, 9);
        Make.put(studio, 0, 7, 7, 1);
        Check.same("25: a tile", studio.count(3), 1);
        Make.put(studio, 0, 0, 0, 1);
        Check.same("25: the same tile", studio.count(3), 1);
        Make.put(studio, 0, 8, 7, 0x01000000);
        Check.same("25: a clear dot that is not 0 counts", studio.count(3), 2);
        Make.put(studio, 0, 16, 8, -1);
        Check.same("25: a small tile at the corner", studio.count(3), 3);
        studio.layer(1);
        studio.fill(1, 1);
        Check.same("25: tiles of all layers", studio.count(3), 9);
        studio.mode(1, 0, 0, false);
        Check.same("25: those that are not seen, too", studio.count(3), 9);
        studio.fill(0, 0);
        Check.same("25: emptied", studio.count(3), 6);
    }

    private static void countTilesAtTheirCorners() {
        int[][] corners = {{0, 0}, {7, 0}, {8, 0}, {15, 7}, {16, 8}, {0, 15}, {23, 16}, {0, 23}, {23, 23}};
        TileStudio alone = Make.studio(24, 24);
        for (int[] corner : corners) {
            alone.fill(0, 0);
            Make.put(alone, 0, corner[0], corner[1], 1);
            Check.same("25: a dot alone at " + corner[0] + ", " + corner[1], alone.count(3), 1);
        }
        TileStudio together = Make.studio(24, 24);
        int full = 0;
        for (int y = 4; y < 24; y += 8) {
            for (int x = 4; x < 24; x += 8) {
                Make.put(together, 0, x, y, 1);
                full++;
                Check.same("25: tiles up to " + x + ", " + y, together.count(3), full);
            }
        }
    }
}
