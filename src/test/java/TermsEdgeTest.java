import java.util.NoSuchElementException;

/** The sentences of the document's 'Terms' that name an edge, each with a test of its own. */
public final class TermsEdgeTest {
    private static final int NORMAL = 0;
    private static final int MULTIPLY = 1;
    private static final int SCREEN = 2;
    private static final int DARKEN = 3;
    private static final int LIGHTEN = 4;
    private static final int ADD = 5;

    public static void main(String[] args) {
        fourBytes();
        clearDots();
        divRounds();
        levelSides();
        beyondTheEdge();
        levelOfNoCover();
        levelCoverRounds();
        levelColoursRound();
        levelsFromTheLevelBelow();
        levelPlaces();
        nothingOnNothing();
        clearOntoADot();
        ontoAClearDot();
        modesAtTheirEdges();
        ontoAPartlyClearDot();
        blendedColoursRound();
        viewOfNothing();
        viewIsBlendedAtItsLevel();
        tileSides();
        emptyTiles();
        wholeFile();
        lastCall();
        Check.finish();
    }

    private static int gray(int colour, int cover) {
        return colour << 24 | colour << 16 | colour << 8 | cover;
    }

    // "A DOT is a number of four bytes, from the highest on: red, green, blue (COLOURS), COVER (0 clear, 255 full)."
    private static void fourBytes() {
        TileStudio studio = Make.studio(1, 1);
        for (int dot : new int[] {0, 1, -1, Integer.MIN_VALUE, Integer.MAX_VALUE, 0x01000000, 0x80FF007F}) {
            studio.fill(0, dot);
            Check.sameDot("Terms: a dot is any number of four bytes", studio.dot(0, 0, 0, 0), dot);
        }
        int[] bytes = {0x80, 0xFF, 0x00, 0x7F};
        for (int channel = 0; channel < 4; channel++) {
            Check.same("Terms: byte " + channel + " without sign", studio.histogram(0, channel, bytes[channel]), 1);
        }
    }

    // "A CLEAR one has cover 0, whatever its colours."
    private static void clearDots() {
        TileStudio studio = Make.studio(1, 1);
        studio.fill(0, 0xFFFFFF00);
        Check.sameDot("Terms: a clear dot keeps its colours", studio.dot(0, 0, 0, 0), 0xFFFFFF00);
        Check.sameDot("Terms: which are not seen", studio.view(0, 0, 0), 0);
        Check.sameDot("Terms: nor at the next level", studio.dot(0, 1, 0, 0), 0);
        Check.same("Terms: but counted", studio.histogram(0, 0, 255), 1);
    }

    // "DIV(v) is (v + 127) / 255; all divisions drop the rest."
    // A layer alone is seen with the cover DIV(cover * opacity).
    private static void divRounds() {
        int[][] coverOpacityDue = {
            {1, 127, 0}, {1, 128, 1}, {2, 191, 1}, {2, 192, 2}, {255, 0, 0}, {255, 1, 1}, {255, 254, 254},
            {255, 255, 255}, {254, 255, 254}, {0, 255, 0}, {128, 128, 64}, {3, 42, 0}, {3, 43, 1}};
        TileStudio studio = Make.studio(1, 1);
        for (int[] one : coverOpacityDue) {
            studio.fill(0, one[0]);
            studio.mode(0, NORMAL, one[1], true);
            Check.same("Terms: DIV(" + one[0] + " * " + one[1] + ")", studio.view(0, 0, 0) & 0xFF, one[2]);
        }
    }

    // "Level k + 1 (up to 3) has half the width and height of level k, rounded up"
    private static void levelSides() {
        for (int side = 1; side <= 24; side++) {
            TileStudio wide = Make.studio(side, 1);
            TileStudio high = Make.studio(1, side);
            wide.fill(0, -1);
            high.fill(0, -1);
            int due = side;
            for (int level = 0; level <= 3; level++) {
                checkLastPlace("Terms: width " + side, wide, level, due - 1, 0);
                checkLastPlace("Terms: height " + side, high, level, 0, due - 1);
                checkNoPlace("Terms: width " + side, wide, level, due, 0);
                checkNoPlace("Terms: height " + side, high, level, 0, due);
                due = due / 2 + due % 2;
            }
        }
    }

    private static void checkLastPlace(String what, TileStudio studio, int level, int x, int y) {
        Check.holds(what + ", last dot at level " + level, (studio.dot(0, level, x, y) & 0xFF) != 0);
        Check.holds(what + ", last of the view at level " + level, (studio.view(level, x, y) & 0xFF) != 0);
    }

    private static void checkNoPlace(String what, TileStudio studio, int level, int x, int y) {
        Check.refuses(what + ", no dot beyond at level " + level, IndexOutOfBoundsException.class,
                () -> studio.dot(0, level, x, y));
        Check.refuses(what + ", no view beyond at level " + level, IndexOutOfBoundsException.class,
                () -> studio.view(level, x, y));
    }

    // "(those beyond the edge are 0)": of a dot with cover 128, four, two or one are there: 512, 256 or 128 in all.
    private static void beyondTheEdge() {
        TileStudio studio = Make.studio(3, 3);
        studio.fill(0, 0x64646480);
        Check.sameDot("Terms: none is beyond the edge", studio.dot(0, 1, 0, 0), 0x64646480);
        Check.sameDot("Terms: two are beyond the right edge", studio.dot(0, 1, 1, 0), 0x64646440);
        Check.sameDot("Terms: two are beyond the lower edge", studio.dot(0, 1, 0, 1), 0x64646440);
        Check.sameDot("Terms: three are beyond the corner", studio.dot(0, 1, 1, 1), 0x64646420);
        TileStudio one = Make.studio(1, 1);
        one.fill(0, 0x646464FF);
        // (255 + 2) / 4, (64 + 2) / 4, (16 + 2) / 4.
        int[] due = {255, 64, 16, 4};
        for (int level = 0; level <= 3; level++) {
            Check.sameDot("Terms: one dot at level " + level, one.dot(0, level, 0, 0), 0x64646400 | due[level]);
        }
    }

    // "each colour 0 if C is 0"
    private static void levelOfNoCover() {
        TileStudio studio = Make.studio(2, 2);
        studio.fill(0, 0xFFFFFF00);
        for (int level = 1; level <= 3; level++) {
            Check.sameDot("Terms: no cover at level " + level, studio.dot(0, level, 0, 0), 0);
        }
    }

    // "with C the sum of their covers, the cover is (C + 2) / 4"
    private static void levelCoverRounds() {
        int[][] coversDue = {
            {0, 0, 0, 0, 0}, {1, 0, 0, 0, 0}, {0, 0, 0, 2, 1}, {1, 1, 1, 2, 1}, {0, 5, 0, 1, 2},
            {255, 255, 255, 252, 254}, {253, 255, 255, 255, 255}, {255, 255, 255, 255, 255}};
        for (int[] one : coversDue) {
            TileStudio studio = Make.studio(2, 2);
            Make.putRow(studio, 0, 0, one[0], one[1]);
            Make.putRow(studio, 0, 1, one[2], one[3]);
            int sum = one[0] + one[1] + one[2] + one[3];
            Check.same("Terms: cover of level 1 for C = " + sum, studio.dot(0, 1, 0, 0), one[4]);
        }
    }

    // "else (the sum of cover * colour + C / 2) / C"
    private static void levelColoursRound() {
        int[][] dotsDue = {
            // C = 2, the half goes up: (1 + 1) / 2.
            {0x00000001, 0x01010101, 0x01010101},
            // C = 3, a third goes down and two thirds up: (1 + 1) / 3 and (2 + 1) / 3.
            {0x01010101, 0x00000002, 0x00000001}, {0x00000001, 0x01010102, 0x01010101},
            // C = 4, a quarter goes down, the half up: (1 + 2) / 4 and (2 + 2) / 4.
            {0x01010101, 0x00000003, 0x00000001}, {0x01010102, 0x00000002, 0x01010101},
            // A clear dot weighs nothing, whatever its colours.
            {0xFFFFFF00, 0x0A0B0C02, 0x0A0B0C01},
            // C = 1: the cover is gone, the colours are not.
            {0x00000000, 0x0A0B0C01, 0x0A0B0C00},
            {0xFFFFFFFF, 0xFFFFFFFF, 0xFFFFFF80}};
        for (int[] one : dotsDue) {
            TileStudio studio = Make.studio(2, 1);
            Make.putRow(studio, 0, 0, one[0], one[1]);
            String both = Integer.toHexString(one[0]) + " and " + Integer.toHexString(one[1]);
            Check.sameDot("Terms: level 1 of " + both, studio.dot(0, 1, 0, 0), one[2]);
        }
    }

    // "its dot at x, y comes of those four of level k": what a level has lost, the next one does not find again.
    private static void levelsFromTheLevelBelow() {
        TileStudio studio = Make.studio(4, 4);
        for (int y = 0; y < 4; y += 2) {
            Make.put(studio, 0, 0, y, 0x0A0B0C01);
            Make.put(studio, 0, 2, y, 0x0A0B0C01);
        }
        for (int y = 0; y < 2; y++) {
            Check.sameDot("Terms: level 1 keeps colours without cover", studio.dot(0, 1, 0, y), 0x0A0B0C00);
            Check.sameDot("Terms: and so beside it", studio.dot(0, 1, 1, y), 0x0A0B0C00);
        }
        Check.sameDot("Terms: for level 2 they are clear", studio.dot(0, 2, 0, 0), 0);
        Check.sameDot("Terms: and for level 3", studio.dot(0, 3, 0, 0), 0);
    }

    // "at 2 x, 2 x + 1 and 2 y, 2 y + 1": a dot alone is found at x / 2, y / 2 of each next level, and nowhere else.
    private static void levelPlaces() {
        for (int place = 0; place < 81; place++) {
            int x = place % 9;
            int y = place / 9;
            TileStudio studio = Make.studio(9, 9);
            Make.put(studio, 0, x, y, 0x102030FF);
            for (int level = 1; level <= 3; level++) {
                checkAlone("Terms: " + x + ", " + y + " at level " + level, studio, level, x >> level, y >> level);
            }
        }
    }

    private static void checkAlone(String what, TileStudio studio, int level, int dueX, int dueY) {
        int side = 8 / (1 << level) + 1;
        for (int y = 0; y < side; y++) {
            for (int x = 0; x < side; x++) {
                boolean there = studio.dot(0, level, x, y) != 0;
                Check.holds(what + ", dot " + x + ", " + y, there == (x == dueX && y == dueY));
            }
        }
    }

    private static int seen(int below, int above, int mode, int opacity) {
        TileStudio studio = Make.studio(1, 1);
        studio.fill(0, below);
        studio.layer(1);
        studio.fill(1, above);
        studio.mode(1, mode, opacity, true);
        return studio.view(0, 0, 0);
    }

    // "Each colour is 0 if t is 0"
    private static void nothingOnNothing() {
        for (int mode = NORMAL; mode <= ADD; mode++) {
            Check.sameDot("Terms: clear on clear, mode " + mode, seen(0xFFFFFF00, 0x80808000, mode, 255), 0);
            Check.sameDot("Terms: opacity 0 on clear, mode " + mode, seen(0xFFFFFF00, 0x808080FF, mode, 0), 0);
        }
    }

    // "t = 255 * s + b * (255 - s)" with s 0: the dot below stays as it is.
    private static void clearOntoADot() {
        for (int mode = NORMAL; mode <= ADD; mode++) {
            for (int below : new int[] {0x0A141E80, 0xFF00FFFF, 0x01020301}) {
                Check.sameDot("Terms: clear on a dot, mode " + mode, seen(below, 0xFFFFFF00, mode, 255), below);
                Check.sameDot("Terms: opacity 0 on a dot, mode " + mode, seen(below, 0xFFFFFFFF, mode, 0), below);
            }
        }
    }

    // "x is DIV(b * m + (255 - b) * S's)" with b 0: S's colours, whatever the mode and the colours below.
    private static void ontoAClearDot() {
        for (int mode = NORMAL; mode <= ADD; mode++) {
            for (int above : new int[] {0x0A141EFF, 0x0A141E80, 0x0A141E01}) {
                Check.sameDot("Terms: a dot on clear, mode " + mode, seen(0x80FF0100, above, mode, 255), above);
            }
        }
    }

    // "and m, by the mode": S's and B's colours at the edges of each mode, both full.
    private static void modesAtTheirEdges() {
        int[][] modeAboveBelowDue = {
            {NORMAL, 0, 255, 0}, {NORMAL, 255, 0, 255},
            {MULTIPLY, 0, 255, 0}, {MULTIPLY, 255, 255, 255}, {MULTIPLY, 255, 1, 1}, {MULTIPLY, 127, 1, 0},
            {MULTIPLY, 128, 1, 1}, {MULTIPLY, 1, 128, 1},
            {SCREEN, 0, 0, 0}, {SCREEN, 255, 0, 255}, {SCREEN, 0, 255, 255}, {SCREEN, 255, 255, 255},
            {SCREEN, 127, 1, 128}, {SCREEN, 128, 1, 128},
            {DARKEN, 127, 128, 127}, {DARKEN, 128, 127, 127}, {DARKEN, 5, 5, 5}, {DARKEN, 255, 0, 0},
            {LIGHTEN, 127, 128, 128}, {LIGHTEN, 128, 127, 128}, {LIGHTEN, 5, 5, 5}, {LIGHTEN, 0, 255, 255},
            {ADD, 127, 127, 254}, {ADD, 127, 128, 255}, {ADD, 128, 128, 255}, {ADD, 255, 255, 255}, {ADD, 0, 0, 0}};
        for (int[] one : modeAboveBelowDue) {
            String what = "Terms: mode " + one[0] + ", " + one[1] + " on " + one[2];
            Check.sameDot(what, seen(gray(one[2], 255), gray(one[1], 255), one[0], 255), gray(one[3], 255));
        }
    }

    // "x is DIV(b * m + (255 - b) * S's)" between its ends.
    private static void ontoAPartlyClearDot() {
        // m = DIV(200 * 100) = 78, x = DIV(128 * 78 + 127 * 200) = (35384 + 127) / 255 = 139, and s is 255.
        Check.sameDot("Terms: multiply on a half clear dot",
                seen(gray(100, 128), gray(200, 255), MULTIPLY, 255), gray(139, 255));
        // m = 255 (at most), x = DIV(1 * 255 + 254 * 200) = (51055 + 127) / 255 = 200.
        Check.sameDot("Terms: add on a nearly clear dot",
                seen(gray(100, 1), gray(200, 255), ADD, 255), gray(200, 255));
        // m = 100, x = DIV(254 * 100 + 1 * 200) = (25600 + 127) / 255 = 100.
        Check.sameDot("Terms: darken on a nearly full dot",
                seen(gray(100, 254), gray(200, 255), DARKEN, 255), gray(100, 255));
    }

    // "(255 * s * x + b * (255 - s) * B's + t / 2) / t", and "The cover is DIV(t)."
    private static void blendedColoursRound() {
        // s = 1, b = 255, t = 255 + 255 * 254 = 65025: (255 * 255 + 32512) / 65025 = 1.
        int black = gray(0, 255);
        Check.sameDot("Terms: white with opacity 1 on black", seen(black, gray(255, 255), NORMAL, 1), gray(1, 255));
        // s = 1: (255 * 127 + 32512) / 65025 = 0 and (255 * 128 + 32512) / 65025 = 1.
        Check.sameDot("Terms: 127 with opacity 1 on black", seen(black, gray(127, 255), NORMAL, 1), black);
        Check.sameDot("Terms: 128 with opacity 1 on black", seen(black, gray(128, 255), NORMAL, 1), gray(1, 255));
        // s = b = 1, t = 255 + 254 = 509, cover (509 + 127) / 255 = 2, colours (255 * 1 + 254) / 509 = 1.
        Check.sameDot("Terms: two faint dots", seen(gray(0, 1), gray(1, 1), NORMAL, 255), gray(1, 2));
        // The other way round (254 * 1 + 254) / 509 = 0.
        Check.sameDot("Terms: two faint dots the other way", seen(gray(1, 1), gray(0, 1), NORMAL, 255), gray(0, 2));
        // s = 128, b = 2, t = 32640 + 254 = 32894, cover (32894 + 127) / 255 = 129.
        Check.same("Terms: a cover that is rounded", seen(2, 128, NORMAL, 255), 129);
    }

    // "The VIEW at a level: the visible layers' dots of this level, blended onto 0, the lowest first"
    private static void viewOfNothing() {
        TileStudio studio = Make.studio(2, 2);
        studio.fill(0, -1);
        studio.layer(1);
        studio.fill(1, 0x102030FF);
        studio.mode(1, NORMAL, 255, false);
        for (int level = 0; level <= 3; level++) {
            Check.sameDot("Terms: the lower layer alone at level " + level,
                    studio.view(level, 0, 0), studio.dot(0, level, 0, 0));
        }
        studio.mode(0, NORMAL, 255, false);
        for (int level = 0; level <= 3; level++) {
            Check.sameDot("Terms: no layer is visible at level " + level, studio.view(level, 0, 0), 0);
        }
        studio.mode(1, MULTIPLY, 255, true);
        Check.sameDot("Terms: a layer that is not visible does not multiply", studio.view(0, 0, 0), 0x102030FF);
    }

    // "the visible layers' dots of this level, blended": white and black beside each other, darkened by gray.
    private static void viewIsBlendedAtItsLevel() {
        TileStudio studio = Make.studio(2, 2);
        studio.select(0, 0, 0, Make.size(1, 2));
        studio.fill(0, gray(255, 255));
        studio.select(0, 1, 0, Make.size(1, 2));
        studio.fill(0, gray(0, 255));
        Make.selectAll(studio);
        studio.layer(1);
        studio.fill(1, gray(130, 255));
        studio.mode(1, DARKEN, 255, true);
        // Level 1 of the lower layer is (510 * 255 + 510) / 1020 = 128, darker than 130; the views' mean is 65.
        Check.sameDot("Terms: first the level, then the blending", studio.view(1, 0, 0), gray(128, 255));
        Check.sameDot("Terms: at level 0 white is darkened", studio.view(0, 0, 0), gray(130, 255));
        Check.sameDot("Terms: at level 0 black stays", studio.view(0, 1, 0), gray(0, 255));
    }

    // "TILES are squares of 8 by 8 places, from the corner 0, 0 on (those at the edges may be smaller)."
    private static void tileSides() {
        for (int side = 1; side <= 24; side++) {
            int due = side <= 8 ? 1 : side <= 16 ? 2 : 3;
            TileStudio wide = Make.studio(side, 1);
            wide.fill(0, 1);
            Check.same("Terms: tiles of a width of " + side, wide.count(3), due);
            TileStudio high = Make.studio(1, side);
            high.fill(0, 1);
            Check.same("Terms: tiles of a height of " + side, high.count(3), due);
            TileStudio both = Make.studio(side, side);
            both.fill(0, 1);
            Check.same("Terms: tiles of a square of " + side, both.count(3), due * due);
        }
    }

    // "A tile of a layer is EMPTY if all its dots at level 0 are 0."
    private static void emptyTiles() {
        int[][] corners = {{0, 0}, {7, 0}, {0, 7}, {7, 7}, {8, 8}, {15, 15}, {16, 16}, {23, 16}, {16, 23}, {23, 23}};
        for (int[] corner : corners) {
            TileStudio studio = Make.studio(24, 24);
            Make.put(studio, 0, corner[0], corner[1], 0x00000001);
            String at = corner[0] + ", " + corner[1];
            Check.same("Terms: one dot at " + at, studio.count(3), 1);
            Make.put(studio, 0, corner[0], corner[1], 0x00010000);
            Check.same("Terms: a clear one, which is not 0, at " + at, studio.count(3), 1);
            Check.sameDot("Terms: though level 1 has 0", studio.dot(0, 1, corner[0] / 2, corner[1] / 2), 0);
            Make.put(studio, 0, corner[0], corner[1], 0);
            Check.same("Terms: 0 again at " + at, studio.count(3), 0);
        }
    }

    // "with this one the file is the picture as it was; before, it is the one that was saved before"
    private static void wholeFile() {
        TileStudio studio = Make.studio(17, 1);
        studio.fill(0, 1);
        for (int most = 0; most <= 3; most++) {
            Check.same("Terms: without the closing page", studio.save(most), most);
            Check.refuses("Terms: no file before the first one is whole", NoSuchElementException.class, studio::open);
        }
        Check.same("Terms: with the closing page", studio.save(4), 4);
        studio.fill(0, 2);
        Check.same("Terms: all tiles, but no closing page", studio.save(3), 3);
        studio.open();
        Check.same("Terms: the one that was saved before", studio.dot(0, 0, 16, 0), 1);
        studio.fill(0, 3);
        studio.save(4);
        studio.fill(0, 4);
        studio.open();
        Check.same("Terms: the picture as it was", studio.dot(0, 0, 16, 0), 3);
    }

    // "An object is used for at most 512 calls after it has been made"
    private static void lastCall() {
        TileStudio studio = Make.studio(24, 24);
        for (int call = 2; call < 512; call++) {
            studio.fill(0, call);
        }
        Check.same("Terms: the 512th call answers", studio.dot(0, 0, 23, 23), 511);
        TileStudio busy = Make.studio(1, 1);
        for (int call = 2; call < 512; call += 2) {
            busy.fill(0, call);
            busy.undo();
        }
        Check.holds("Terms: the 512th call does a step again", busy.redo());
    }
}
