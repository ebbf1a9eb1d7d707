import java.util.NoSuchElementException;

/** The sentences of the promises 1 to 8 that name an edge, each with a test of its own. */
public final class PictureEdgeTest {
    private static final int RED = 0xFF0000FF;
    private static final int GREEN = 0x00FF00FF;
    private static final int BLUE = 0x0000FFFF;

    public static void main(String[] args) {
        noPictureNoFile();
        newBrushNothingCopied();
        leastAndGreatestPicture();
        madeAnew();
        makeLeavesFileBrushAndCopy();
        layerAtEachPosition();
        layerIsPlain();
        threeLayersAtMost();
        dropEachAndNotTheOnlyOne();
        moveToEachPosition();
        moveOfTheOnlyOne();
        modeEdges();
        selectSizesWithoutSign();
        selectNothing();
        selectBeyondTheEdges();
        selectCornersOfRectangles();
        selectSmallEllipses();
        selectGreatEllipses();
        selectKindsOnNothingAndAll();
        selectLimits();
        brushEdges();
        Check.finish();
    }

    // 1: "No picture, no file." 25: "0 without a picture", "-1 for another what".
    private static void noPictureNoFile() {
        TileStudio studio = new TileStudio();
        for (int what = 0; what <= 5; what++) {
            Check.same("1: count(" + what + ")", studio.count(what), 0);
        }
        Check.same("1: count(6)", studio.count(6), -1);
        Check.same("1: count(-1)", studio.count(-1), -1);
        Check.refuses("1: no file", NoSuchElementException.class, studio::open);
        Check.holds("1: no step back", !studio.undo());
        Check.holds("1: no step again", !studio.redo());
        studio.make(1, 1);
        Check.refuses("1: no file, even with a picture", NoSuchElementException.class, studio::open);
    }

    // 1: "The brush is 0 with radius 0; nothing was copied."
    private static void newBrushNothingCopied() {
        TileStudio studio = Make.studio(3, 3);
        studio.fill(0, 0x12345600);
        studio.stroke(0, Make.at(1, 1), Make.at(1, 1));
        // A clear brush makes a clear dot 0, so that its reach shows.
        Check.same("1: radius 0 reaches one dot", studio.histogram(0, 0, 0), 1);
        Check.sameDot("1: the brush is 0", studio.dot(0, 0, 1, 1), 0);
        studio.fill(0, RED);
        studio.stroke(0, Make.at(1, 1), Make.at(1, 1));
        Check.sameDot("1: a brush of 0 leaves a full dot", studio.dot(0, 0, 1, 1), RED);
        Check.refuses("1: nothing was copied", NoSuchElementException.class, () -> studio.paste(0, 0, 0));
    }

    // 2: "width or height is not 1 .. 24"
    private static void leastAndGreatestPicture() {
        for (int side : new int[] {1, 2, 23, 24}) {
            TileStudio wide = Make.studio(side, 1);
            Check.same("2: width " + side, wide.count(5), 10000 * side + 100);
            Check.same("2: width " + side + ", all is selected", wide.count(4), side);
            TileStudio high = Make.studio(1, side);
            Check.same("2: height " + side, high.count(5), 10000 + 100 * side);
            Check.same("2: height " + side + ", all is selected", high.count(4), side);
        }
        TileStudio studio = Make.studio(24, 24);
        Check.same("2: all of the greatest is selected", studio.count(4), 576);
        Check.sameDot("2: its last dot is 0", studio.dot(0, 0, 23, 23), 0);
        for (int side : new int[] {0, 25}) {
            Check.refusesNumber("2: width " + side, () -> studio.make(side, 24));
            Check.refusesNumber("2: height " + side, () -> studio.make(24, side));
        }
        Check.same("2: refused", studio.count(5), 242400);
    }

    // 2: "A new picture with one layer of dots 0, mode 0, opacity 255, visible; all is selected; there are no steps."
    private static void madeAnew() {
        TileStudio studio = Make.studio(2, 2);
        studio.layer(0);
        studio.layer(0);
        for (int layer = 0; layer < 3; layer++) {
            studio.fill(layer, RED);
            studio.mode(layer, 1, 3, false);
        }
        studio.select(0, 0, 0, 0);
        studio.undo();
        studio.make(2, 2);
        Check.same("2: one layer", studio.count(0), 1);
        Check.same("2: no step back", studio.count(1), 0);
        Check.same("2: no step again", studio.count(2), 0);
        Check.holds("2: nothing is taken back", !studio.undo());
        Check.holds("2: nothing is done again", !studio.redo());
        Check.same("2: dots 0", studio.count(3), 0);
        Check.same("2: all is selected", studio.count(4), 4);
        studio.fill(0, 0x0A0B0C0D);
        Check.sameDot("2: opacity 255, visible", studio.view(0, 1, 1), 0x0A0B0C0D);
    }

    // 2: "(The file, the brush and what was copied stay.)"
    private static void makeLeavesFileBrushAndCopy() {
        TileStudio studio = Make.studio(1, 1);
        studio.fill(0, RED);
        studio.save(-1);
        studio.fill(0, GREEN);
        studio.copy(0);
        studio.brush(BLUE, 1);
        studio.make(4, 1);
        studio.stroke(0, Make.at(3, 0), Make.at(3, 0));
        Check.same("2: what was copied stays", studio.paste(0, 0, 0), 1);
        Make.checkRow("2: copy and brush stay", studio, 0, 0, GREEN, 0, BLUE, BLUE);
        studio.open();
        Check.same("2: the file stays", studio.count(5), 10100);
        Check.sameDot("2: with its dot", studio.dot(0, 0, 0, 0), RED);
    }

    private static TileStudio coloured(int... dots) {
        TileStudio studio = Make.studio(1, 1);
        for (int i = 1; i < dots.length; i++) {
            studio.layer(i);
        }
        for (int i = 0; i < dots.length; i++) {
            studio.fill(i, dots[i]);
        }
        return studio;
    }

    private static void checkLayers(String what, TileStudio studio, int... due) {
        Check.same(what + ", how many", studio.count(0), due.length);
        for (int i = 0; i < due.length; i++) {
            Check.sameDot(what + ", layer " + i, studio.dot(i, 0, 0, 0), due[i]);
        }
    }

    // 3: "A new layer of dots 0 at a position, those from there on are one higher", "position is not 0 .. how many"
    private static void layerAtEachPosition() {
        int[][] afterOne = {{0, RED}, {RED, 0}};
        for (int position = 0; position <= 1; position++) {
            TileStudio studio = coloured(RED);
            studio.layer(position);
            checkLayers("3: layer(" + position + ") on one", studio, afterOne[position]);
        }
        int[][] afterTwo = {{0, RED, GREEN}, {RED, 0, GREEN}, {RED, GREEN, 0}};
        for (int position = 0; position <= 2; position++) {
            TileStudio studio = coloured(RED, GREEN);
            studio.layer(position);
            checkLayers("3: layer(" + position + ") on two", studio, afterTwo[position]);
        }
        TileStudio one = coloured(RED);
        Check.refusesNumber("3: layer(2) on one", () -> one.layer(2));
        Check.refusesNumber("3: layer(-1) on one", () -> one.layer(-1));
        TileStudio two = coloured(RED, GREEN);
        Check.refusesNumber("3: layer(3) on two", () -> two.layer(3));
        checkLayers("3: refused", two, RED, GREEN);
    }

    // 3: "mode 0, opacity 255, visible", whatever those of the other layers are; the selection stays.
    private static void layerIsPlain() {
        TileStudio studio = Make.studio(2, 1);
        studio.fill(0, RED);
        studio.mode(0, 1, 7, false);
        studio.select(0, 0, 0, Make.size(1, 1));
        studio.layer(1);
        Check.same("3: the selection stays", studio.count(4), 1);
        studio.fill(1, 0x0A0B0C80);
        Check.sameDot("3: opacity 255, visible", studio.view(0, 0, 0), 0x0A0B0C80);
        studio.mode(0, 0, 255, true);
        studio.fill(1, GREEN);
        Check.sameDot("3: mode 0", studio.view(0, 0, 0), GREEN);
    }

    // 3: "IllegalStateException: there are three."
    private static void threeLayersAtMost() {
        TileStudio studio = coloured(RED, GREEN, BLUE);
        for (int position = 0; position <= 3; position++) {
            int at = position;
            Check.refuses("3: a fourth at " + at, IllegalStateException.class, () -> studio.layer(at));
        }
        checkLayers("3: three stay", studio, RED, GREEN, BLUE);
        studio.drop(1);
        studio.layer(2);
        checkLayers("3: a third again", studio, RED, BLUE, 0);
    }

    // 4: "A layer goes." "IllegalStateException: it is the only one."
    private static void dropEachAndNotTheOnlyOne() {
        int[][] due = {{GREEN, BLUE}, {RED, BLUE}, {RED, GREEN}};
        for (int gone = 0; gone <= 2; gone++) {
            TileStudio studio = coloured(RED, GREEN, BLUE);
            studio.drop(gone);
            checkLayers("4: drop(" + gone + ") of three", studio, due[gone]);
        }
        TileStudio lower = coloured(RED, GREEN);
        lower.drop(0);
        checkLayers("4: drop(0) of two", lower, GREEN);
        Check.refuses("4: the only one", IllegalStateException.class, () -> lower.drop(0));
        checkLayers("4: refused", lower, GREEN);
        TileStudio upper = coloured(RED, GREEN);
        upper.drop(1);
        checkLayers("4: drop(1) of two", upper, RED);
        Check.refusesNumber("4: no such layer", () -> upper.drop(1));
    }

    // 5: "A layer comes to another position (both 0 .. how many there are - 1), the others keep their order."
    private static void moveToEachPosition() {
        int[][][] due = {
            {{RED, GREEN, BLUE}, {GREEN, RED, BLUE}, {GREEN, BLUE, RED}},
            {{GREEN, RED, BLUE}, {RED, GREEN, BLUE}, {RED, BLUE, GREEN}},
            {{BLUE, RED, GREEN}, {RED, BLUE, GREEN}, {RED, GREEN, BLUE}}};
        for (int from = 0; from <= 2; from++) {
            for (int to = 0; to <= 2; to++) {
                TileStudio studio = coloured(RED, GREEN, BLUE);
                studio.move(from, to);
                checkLayers("5: move(" + from + ", " + to + ")", studio, due[from][to]);
            }
        }
        TileStudio studio = coloured(RED, GREEN, BLUE);
        for (int wrong : new int[] {-1, 3}) {
            Check.refusesNumber("5: from " + wrong, () -> studio.move(wrong, 0));
            Check.refusesNumber("5: to " + wrong, () -> studio.move(0, wrong));
        }
        checkLayers("5: refused", studio, RED, GREEN, BLUE);
    }

    // 5: "A layer comes to another position", with its mode and all; the only one has but its own.
    private static void moveOfTheOnlyOne() {
        TileStudio studio = coloured(RED);
        studio.move(0, 0);
        checkLayers("5: the only one", studio, RED);
        Check.same("5: a step", studio.count(1), 2);
        Check.refusesNumber("5: to 1 of one", () -> studio.move(0, 1));
        Check.refusesNumber("5: from 1 of one", () -> studio.move(1, 0));
        TileStudio both = coloured(0x646464FF, 0x0A0A0AFF);
        both.mode(0, 5, 255, true);
        both.mode(1, 0, 255, false);
        both.move(0, 1);
        Check.sameDot("5: visibility goes along", both.view(0, 0, 0), 0x646464FF);
        both.mode(0, 0, 255, true);
        Check.sameDot("5: the mode goes along", both.view(0, 0, 0), 0x6E6E6EFF);
    }

    // 6: "a MODE 0 .. 5, an OPACITY 0 .. 255, and visible or not"
    private static void modeEdges() {
        TileStudio studio = coloured(0x646464FF, 0xC8C8C8FF);
        studio.mode(1, 0, 255, true);
        Check.sameDot("6: mode 0", studio.view(0, 0, 0), 0xC8C8C8FF);
        studio.mode(1, 5, 255, true);
        Check.sameDot("6: mode 5", studio.view(0, 0, 0), 0xFFFFFFFF);
        studio.mode(1, 5, 0, true);
        Check.sameDot("6: opacity 0", studio.view(0, 0, 0), 0x646464FF);
        studio.mode(1, 5, 255, false);
        Check.sameDot("6: not visible", studio.view(0, 0, 0), 0x646464FF);
        for (int wrong : new int[] {-1, 6}) {
            Check.refusesNumber("6: mode " + wrong, () -> studio.mode(1, wrong, 255, true));
        }
        for (int wrong : new int[] {-1, 256}) {
            Check.refusesNumber("6: opacity " + wrong, () -> studio.mode(1, 0, wrong, true));
        }
        Check.sameDot("6: refused, still not visible", studio.view(0, 0, 0), 0x646464FF);
    }

    // 7: "w wide (the lowest 16 bits of size, without sign) and h high (the bits above, without sign)"
    private static void selectSizesWithoutSign() {
        TileStudio studio = Make.studio(24, 24);
        Check.same("7: w and h", studio.select(0, 0, 0, 0x00030002), 6);
        Check.same("7: w 2", studio.select(0, 0, 0, 0x00180002), 48);
        Check.same("7: h 3", studio.select(0, 0, 0, 0x00030018), 72);
        Check.refusesNumber("7: w 65535 is not -1", () -> studio.select(0, 0, 0, 0x0001FFFF));
        Check.refusesNumber("7: h 65535 is not -1", () -> studio.select(0, 0, 0, 0xFFFF0001));
        Check.refusesNumber("7: w 32768", () -> studio.select(0, 0, 0, 0x00018000));
        Check.refusesNumber("7: h 32768", () -> studio.select(0, 0, 0, 0x80000001));
        Check.same("7: refused", studio.count(4), 72);
    }

    // 7: "w or h not 0 .. 1000": 0 is as said, and no place is in such a shape.
    private static void selectNothing() {
        for (int shape : new int[] {0, 10}) {
            for (int size : new int[] {0, Make.size(0, 1), Make.size(1, 0), Make.size(0, 1000), Make.size(1000, 0)}) {
                TileStudio studio = Make.studio(3, 3);
                String what = "7: size " + Integer.toHexString(size) + ", kind ";
                Check.same(what + (shape + 2), studio.select(shape + 2, 1, 1, size), 9);
                Check.same(what + (shape + 1), studio.select(shape + 1, 1, 1, size), 9);
                Check.same(what + (shape + 3), studio.select(shape + 3, 1, 1, size), 0);
                Check.same(what + (shape + 1) + " on none", studio.select(shape + 1, 1, 1, size), 0);
                Make.selectAll(studio);
                Check.same(what + shape, studio.select(shape, 1, 1, size), 0);
            }
        }
    }

    // 7: places beyond the picture's edges are none of its places.
    private static void selectBeyondTheEdges() {
        TileStudio studio = Make.studio(24, 24);
        int one = Make.size(1, 1);
        int[][] places = {{-1, 0}, {0, -1}, {24, 0}, {0, 24}, {-1, -1}, {24, 24}, {31, 5}, {32, 0}, {-32, 3}};
        for (int[] place : places) {
            Check.same("7: at " + place[0] + ", " + place[1], studio.select(0, place[0], place[1], one), 0);
            Check.same("7: round, there", studio.select(10, place[0], place[1], one), 0);
        }
        Check.same("7: over all edges", studio.select(0, -1, -1, Make.size(26, 26)), 576);
        Check.same("7: over all edges, far", studio.select(0, -500, -500, Make.size(1000, 1000)), 576);
        Check.same("7: over the upper left corner", studio.select(0, -1, -1, Make.size(2, 2)), 1);
        Check.same("7: over the lower right corner", studio.select(0, 23, 23, Make.size(2, 2)), 1);
        Check.same("7: a corner", studio.select(0, 23, 0, one), 1);
        Check.same("7: the opposite corner, too", studio.select(1, 0, 23, one), 2);
    }

    // 7: "those of the rectangle from x, y on": the first and the last place of it, and those beside them.
    private static void selectCornersOfRectangles() {
        TileStudio studio = Make.studio(6, 6);
        studio.select(0, 1, 2, Make.size(3, 2));
        studio.fill(0, 1);
        int[][] within = {{1, 2}, {3, 2}, {1, 3}, {3, 3}};
        for (int[] place : within) {
            Check.same("7: in it: " + place[0] + ", " + place[1], studio.dot(0, 0, place[0], place[1]), 1);
        }
        int[][] beside = {{0, 2}, {4, 3}, {1, 1}, {3, 4}};
        for (int[] place : beside) {
            Check.same("7: beside it: " + place[0] + ", " + place[1], studio.dot(0, 0, place[0], place[1]), 0);
        }
    }

    // 7: "is at most w^2 h^2", where both sides are nearly equal (odd and even keep them from being quite equal).
    private static void selectSmallEllipses() {
        int[][] wideHighDue = {
            {1, 1, 1}, {2, 1, 2}, {1, 2, 2}, {2, 2, 4}, {3, 1, 3}, {3, 3, 9}, {4, 4, 12}, {5, 5, 21},
            // 24 by 1: (2a - 23)^2 at most 576: all. 24 by 2: four times that and 576 at most 2304: |2a - 23| to 19.
            {24, 1, 24}, {24, 2, 40}};
        TileStudio studio = Make.studio(24, 24);
        for (int[] one : wideHighDue) {
            String what = "7: an ellipse " + one[0] + " by " + one[1];
            Check.same(what, studio.select(10, 0, 0, Make.size(one[0], one[1])), one[2]);
            Check.same(what + " turned", studio.select(10, 0, 0, Make.size(one[1], one[0])), one[2]);
        }
        // w = h = 10: at a = 1, b = 2 are 7^2 + 5^2 = 74; at a = 0, b = 2 are 81 + 25 = 106, at b = 3 are 81 + 9 = 90.
        studio.select(10, 0, 0, Make.size(10, 10));
        studio.fill(0, 1);
        Check.same("7: more than 100", studio.dot(0, 0, 0, 2), 0);
        Check.same("7: less than 100", studio.dot(0, 0, 0, 3), 1);
        // w = h = 25: at a = 9, b = 0 are 6^2 + 24^2 = 612, at a = 8, b = 0 are 8^2 + 24^2 = 640,
        // at a = 5, b = 2 are 14^2 + 20^2 = 596.
        Make.selectAll(studio);
        studio.fill(0, 0);
        studio.select(10, 0, 0, Make.size(25, 25));
        studio.fill(0, 1);
        Check.same("7: 612 of 625", studio.dot(0, 0, 9, 0), 1);
        Check.same("7: 640 of 625", studio.dot(0, 0, 8, 0), 0);
        Check.same("7: 596 of 625", studio.dot(0, 0, 5, 2), 1);
        Check.same("7: from -1 on", studio.select(10, -1, 0, Make.size(2, 1)), 1);
    }

    // 7: "(2 (x' - x) + 1 - w)^2 h^2 + ... is at most w^2 h^2" with products beyond what an int holds.
    private static void selectGreatEllipses() {
        TileStudio studio = Make.studio(24, 24);
        Check.same("7: the middle of the greatest", studio.select(10, -488, -488, Make.size(1000, 1000)), 576);
        Check.same("7: a corner of the greatest", studio.select(10, 0, 0, Make.size(1000, 1000)), 0);
        Check.same("7: the other corner", studio.select(10, -976, -976, Make.size(1000, 1000)), 0);
        // In its uppermost row 999^2 of 1000^2 are used up: 1999 are left, so |2a - 999| is at most 43.
        studio.make(24, 1);
        Check.same("7: row 0 has a of 478 to 521", studio.select(10, -478, 0, Make.size(1000, 1000)), 24);
        Check.same("7: row 0 begins at 478", studio.select(10, -470, 0, Make.size(1000, 1000)), 16);
        Check.same("7: row 0 ends at 521", studio.select(10, -506, 0, Make.size(1000, 1000)), 16);
        // 1000 by 1: the one row has its all; 1 by 1000 upright.
        Check.same("7: a flat one", studio.select(10, -976, 0, Make.size(1000, 1)), 24);
        studio.make(1, 24);
        Check.same("7: an upright one", studio.select(10, 0, 0, Make.size(1, 1000)), 24);
    }

    // 7: "these alone are selected; 1: they, too; 2: no more; 3: of those selected only these stay"
    private static void selectKindsOnNothingAndAll() {
        int two = Make.size(2, 1);
        int[] onNothing = {2, 2, 0, 0};
        int[] onAll = {2, 9, 7, 2};
        for (int shape = 0; shape <= 1; shape++) {
            for (int how = 0; how <= 3; how++) {
                TileStudio studio = Make.studio(3, 3);
                int kind = 10 * shape + how;
                Check.same("7: kind " + kind + " on all", studio.select(kind, 1, 1, two), onAll[how]);
                Check.same("7: counted", studio.count(4), onAll[how]);
                studio.select(0, 0, 0, 0);
                Check.same("7: kind " + kind + " on nothing", studio.select(kind, 1, 1, two), onNothing[how]);
                Check.same("7: counted on nothing", studio.count(4), onNothing[how]);
            }
        }
    }

    // 7: "kind not as said, x or y not -1000 .. 1000, w or h not 0 .. 1000"
    private static void selectLimits() {
        TileStudio studio = Make.studio(2, 2);
        for (int kind = -12; kind <= 34; kind++) {
            boolean asSaid = kind >= 0 && kind <= 3 || kind >= 10 && kind <= 13;
            int of = kind;
            if (asSaid) {
                studio.select(kind, 0, 0, Make.size(1, 1));
            } else {
                Check.refusesNumber("7: kind " + kind, () -> studio.select(of, 0, 0, Make.size(1, 1)));
            }
        }
        Check.same("7: x -1000", studio.select(0, -1000, 0, Make.size(1000, 1)), 0);
        Check.same("7: x -999", studio.select(0, -999, 0, Make.size(1000, 1)), 1);
        Check.same("7: y -1000", studio.select(0, 0, -1000, Make.size(1, 1000)), 0);
        Check.same("7: y -999", studio.select(0, 0, -999, Make.size(1, 1000)), 1);
        Check.same("7: x and y 1000", studio.select(0, 1000, 1000, Make.size(1000, 1000)), 0);
        Check.same("7: w and h 1000", studio.select(0, 0, 0, Make.size(1000, 1000)), 4);
        for (int far : new int[] {-1001, 1001}) {
            Check.refusesNumber("7: x " + far, () -> studio.select(0, far, 0, 0));
            Check.refusesNumber("7: y " + far, () -> studio.select(0, 0, far, 0));
        }
        Check.refusesNumber("7: w 1001", () -> studio.select(0, 0, 0, Make.size(1001, 1)));
        Check.refusesNumber("7: h 1001", () -> studio.select(0, 0, 0, Make.size(1, 1001)));
        Check.same("7: refused", studio.count(4), 4);
    }

    // 8: "its dot and its radius 0 .. 7 (no step)"
    private static void brushEdges() {
        TileStudio studio = Make.studio(24, 1);
        studio.fill(0, 0);
        studio.undo();
        studio.brush(RED, 0);
        studio.brush(GREEN, 7);
        Check.same("8: no step", studio.count(1), 0);
        Check.same("8: what can be done again stays", studio.count(2), 1);
        for (int wrong : new int[] {-1, 8}) {
            Check.refusesNumber("8: radius " + wrong, () -> studio.brush(RED, wrong));
        }
        studio.stroke(0, Make.at(10, 0), Make.at(10, 0));
        Check.same("8: radius 7 and its dot stay", studio.histogram(0, 1, 255), 15);
        Check.sameDot("8: the first", studio.dot(0, 0, 3, 0), GREEN);
        Check.sameDot("8: before the first", studio.dot(0, 0, 2, 0), 0);
        Check.sameDot("8: the last", studio.dot(0, 0, 17, 0), GREEN);
        Check.sameDot("8: after the last", studio.dot(0, 0, 18, 0), 0);
        TileStudio early = new TileStudio();
        early.brush(BLUE, 0);
        early.make(2, 1);
        early.stroke(0, 0, 0);
        Make.checkRow("8: a brush before the picture", early, 0, 0, BLUE, 0);
    }
}
