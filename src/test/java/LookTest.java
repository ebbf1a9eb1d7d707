/** Promises 22 to 24: dot, view, histogram, with levels and blending. */
public final class LookTest {
    public static void main(String[] args) {
        levels();
        levelsRound();
        levelsOfLevels();
        dotRefuses();
        modes();
        partlyClear();
        manyLayers();
        clearThings();
        viewAtLevels();
        viewRefuses();
        histogram();
        histogramRefuses();
        Check.finish();
    }

    private static void levels() {
        TileStudio studio = Make.studio(3, 3);
        Make.putRow(studio, 0, 0, 0xFF0000FF, 0x00FF0001, 0x09080701);
        Make.putRow(studio, 0, 1, 0x00000000, 0x0A141E00, 0x00000000);
        Make.putRow(studio, 0, 2, 0x01020300, 0x01020300, 0x646464C8);
        // C = 256: cover 258 / 4, red (65025 + 128) / 256, green (255 + 128) / 256, blue 128 / 256.
        Check.sameDot("22: four dots", studio.dot(0, 1, 0, 0), 0xFE010040);
        // C = 1: cover 3 / 4, and yet there are colours.
        Check.sameDot("22: nearly clear", studio.dot(0, 1, 1, 0), 0x09080700);
        Check.sameDot("22: clear dots lose their colours", studio.dot(0, 1, 0, 1), 0);
        // C = 200: cover 202 / 4, colours (20000 + 100) / 200.
        Check.sameDot("22: at the corner", studio.dot(0, 1, 1, 1), 0x64646432);
        Check.sameDot("22: level 0 keeps them", studio.dot(0, 0, 0, 2), 0x01020300);
        // C = 64 + 0 + 0 + 50 = 114: cover 116 / 4 = 29; red (64 * 254 + 50 * 100 + 57) / 114 = 186,
        // green (64 + 5000 + 57) / 114 = 44, blue (5000 + 57) / 114 = 44.
        Check.sameDot("22: level 2", studio.dot(0, 2, 0, 0), 0xBA2C2C1D);
        // C = 29: cover 31 / 4, colours as they are.
        Check.sameDot("22: level 3 of a single one", studio.dot(0, 3, 0, 0), 0xBA2C2C07);
    }

    private static void levelsRound() {
        TileStudio studio = Make.studio(2, 1);
        Make.putRow(studio, 0, 0, 0x0A0A0C01, 0x0B0A0B01);
        // C = 2: cover 4 / 4, red (21 + 1) / 2, green (20 + 1) / 2, blue (23 + 1) / 2.
        Check.sameDot("22: halves are rounded up", studio.dot(0, 1, 0, 0), 0x0B0A0C01);
    }

    private static void levelsOfLevels() {
        TileStudio studio = Make.studio(24, 9);
        studio.fill(0, 0x102030FF);
        Check.sameDot("22: level 3, whole", studio.dot(0, 3, 2, 0), 0x102030FF);
        // A row of 24 by 1 at the edge: cover (510 + 2) / 4 = 128, then 258 / 4 = 64, then 130 / 4 = 32.
        Check.sameDot("22: level 1 at the edge", studio.dot(0, 1, 11, 4), 0x10203080);
        Check.sameDot("22: level 2 at the edge", studio.dot(0, 2, 5, 2), 0x10203040);
        Check.sameDot("22: level 3 at the edge", studio.dot(0, 3, 2, 1), 0x10203020);
        studio.layer(1);
        studio.mode(0, 5, 1, false);
        Check.sameDot("22: whatever the mode", studio.dot(0, 3, 0, 0), 0x102030FF);
        Check.sameDot("22: the other layer", studio.dot(1, 3, 0, 0), 0);
    }

    private static void dotRefuses() {
        TileStudio studio = Make.studio(9, 17);
        Check.refusesNumber("22: layer 1", () -> studio.dot(1, 0, 0, 0));
        Check.refusesNumber("22: layer -1", () -> studio.dot(-1, 0, 0, 0));
        Check.refusesNumber("22: level 4", () -> studio.dot(0, 4, 0, 0));
        Check.refusesNumber("22: level -1", () -> studio.dot(0, -1, 0, 0));
        Check.refusesNumber("22: the layer comes first", () -> studio.dot(1, 0, 99, 0));
        Check.refusesNumber("22: the level comes first", () -> studio.dot(0, 4, 99, 0));
        int[][] sides = {{9, 17}, {5, 9}, {3, 5}, {2, 3}};
        for (int level = 0; level < 4; level++) {
            int at = level;
            int wide = sides[level][0];
            int high = sides[level][1];
            Check.same("22: the last place", studio.dot(0, level, wide - 1, high - 1), 0);
            refusesPlace("22: beyond x", () -> studio.dot(0, at, wide, 0));
            refusesPlace("22: beyond y", () -> studio.dot(0, at, 0, high));
            refusesPlace("22: x -1", () -> studio.dot(0, at, -1, 0));
            refusesPlace("22: y -1", () -> studio.dot(0, at, 0, -1));
            refusesPlace("22: x greatest", () -> studio.dot(0, at, Integer.MAX_VALUE, 0));
            refusesPlace("22: y least", () -> studio.dot(0, at, 0, Integer.MIN_VALUE));
        }
    }

    private static void refusesPlace(String what, Check.Call call) {
        Check.refuses(what, IndexOutOfBoundsException.class, call);
    }

    private static void modes() {
        TileStudio studio = Make.studio(1, 1);
        studio.fill(0, 0x6432C8FF);
        studio.layer(1);
        studio.fill(1, 0xC86464FF);
        // 200 and 100, 100 and 50, 100 and 200; DIV(20000) = 78, DIV(5000) = 20.
        int[] due = {0xC86464FF, 0x4E144EFF, 0xDE82DEFF, 0x643264FF, 0xC864C8FF, 0xFF96FFFF};
        for (int mode = 0; mode < 6; mode++) {
            studio.mode(1, mode, 255, true);
            Check.sameDot("23: mode " + mode, studio.view(0, 0, 0), due[mode]);
        }
        for (int mode = 0; mode < 6; mode++) {
            studio.mode(0, mode, 255, true);
            studio.mode(1, mode, 255, false);
            Check.sameDot("23: the lowest one, mode " + mode, studio.view(0, 0, 0), 0x6432C8FF);
        }
    }

    private static void partlyClear() {
        TileStudio studio = Make.studio(1, 1);
        studio.fill(0, 0x32003264);
        studio.layer(1);
        studio.fill(1, 0xC8640080);
        studio.mode(1, 1, 128, true);
        // s = DIV(16384) = 64, b = 100, t = 16320 + 19100 = 35420, cover 35547 / 255 = 139.
        // Red: m = DIV(10000) = 39, x = DIV(3900 + 31000) = 137, (2235840 + 955000 + 17710) / t = 90.
        // Green: m = 0, x = DIV(15500) = 61, (995520 + 0 + 17710) / t = 28.
        // Blue: m = 0, x = 0, (0 + 955000 + 17710) / t = 27.
        Check.sameDot("23: partly clear", studio.view(0, 0, 0), 0x5A1C1B8B);
        studio.mode(1, 1, 0, true);
        Check.sameDot("23: opacity 0", studio.view(0, 0, 0), 0x32003264);
    }

    private static void manyLayers() {
        TileStudio studio = Make.studio(1, 1);
        studio.layer(1);
        studio.layer(2);
        studio.fill(0, 0x0A0A0AFF);
        studio.fill(1, 0x141414FF);
        studio.fill(2, 0x646464FF);
        studio.mode(1, 5, 255, true);
        studio.mode(2, 3, 255, true);
        Check.sameDot("23: added, then darkened", studio.view(0, 0, 0), 0x1E1E1EFF);
        studio.mode(0, 0, 255, false);
        Check.sameDot("23: without the lowest", studio.view(0, 0, 0), 0x141414FF);
        studio.mode(1, 5, 255, false);
        Check.sameDot("23: the highest alone", studio.view(0, 0, 0), 0x646464FF);
        studio.mode(2, 0, 255, false);
        Check.sameDot("23: none is visible", studio.view(0, 0, 0), 0);
        studio.move(2, 0);
        studio.mode(0, 0, 255, true);
        studio.mode(2, 5, 255, true);
        Check.sameDot("23: in another order", studio.view(0, 0, 0), 0x787878FF);
    }

    private static void clearThings() {
        TileStudio studio = Make.studio(1, 1);
        studio.fill(0, 0x12345600);
        Check.sameDot("23: a clear dot is seen as 0", studio.view(0, 0, 0), 0);
        studio.fill(0, 0x12345601);
        Check.sameDot("23: a nearly clear one as it is", studio.view(0, 0, 0), 0x12345601);
        studio.mode(0, 0, 127, true);
        // DIV(127) = 254 / 255 = 0.
        Check.sameDot("23: too faint", studio.view(0, 0, 0), 0);
        studio.mode(0, 0, 128, true);
        Check.sameDot("23: just enough", studio.view(0, 0, 0), 0x12345601);
    }

    private static void viewAtLevels() {
        TileStudio studio = Make.studio(3, 2);
        studio.fill(0, 0x000000FF);
        studio.layer(1);
        Make.put(studio, 1, 0, 0, 0xFFFFFFFF);
        // At level 1 the upper dot is white with cover 257 / 4 = 64, blended then: 64 of 255 white.
        Check.sameDot("23: level 1", studio.view(1, 0, 0), 0x404040FF);
        // The lower dot there has cover 512 / 4 = 128, the upper one is 0.
        Check.sameDot("23: level 1 at the edge", studio.view(1, 1, 0), 0x00000080);
        // Level 2: below (255 + 128 + 2) / 4 = 96, above 66 / 4 = 16: t = 4080 + 96 * 239 = 27024,
        // cover 27151 / 255 = 106, colours (4080 * 255 + 13512) / 27024 = 38.
        Check.sameDot("23: level 2", studio.view(2, 0, 0), 0x2626266A);
        // Level 3: below 98 / 4 = 24, above 18 / 4 = 4: t = 1020 + 24 * 251 = 7044,
        // cover 7171 / 255 = 28, colours (1020 * 255 + 3522) / 7044 = 37.
        Check.sameDot("23: level 3", studio.view(3, 0, 0), 0x2525251C);
    }

    private static void viewRefuses() {
        TileStudio studio = Make.studio(9, 17);
        Check.refusesNumber("23: level 4", () -> studio.view(4, 0, 0));
        Check.refusesNumber("23: level -1", () -> studio.view(-1, 0, 0));
        Check.refusesNumber("23: the level comes first", () -> studio.view(4, -1, 0));
        int[][] sides = {{9, 17}, {5, 9}, {3, 5}, {2, 3}};
        for (int level = 0; level < 4; level++) {
            int at = level;
            int wide = sides[level][0];
            int high = sides[level][1];
            Check.same("23: the last place", studio.view(level, wide - 1, high - 1), 0);
            refusesPlace("23: beyond x", () -> studio.view(at, wide, 0));
            refusesPlace("23: beyond y", () -> studio.view(at, 0, high));
            refusesPlace("23: x -1", () -> studio.view(at, -1, 0));
            refusesPlace("23: y -1", () -> studio.view(at, 0, -1));
        }
    }

    private static void histogram() {
        TileStudio studio = Make.studio(4, 2);
        studio.fill(0, 0x01020304);
        Make.putRow(studio, 0, 0, 0xFF020304, 0x01FF0304, 0x0102FF04, 0x010203FF);
        for (int channel = 0; channel < 4; channel++) {
            Check.same("24: channel " + channel, studio.histogram(0, channel, channel + 1), 7);
            Check.same("24: 255 in channel " + channel, studio.histogram(0, channel, 255), 1);
            Check.same("24: another value", studio.histogram(0, channel, 0), 0);
            Check.same("24: -1 is no byte", studio.histogram(0, channel, -1), 0);
            Check.same("24: 256 is no byte", studio.histogram(0, channel, 256), 0);
            Check.same("24: nor is this", studio.histogram(0, channel, channel + 257), 0);
            Check.same("24: least", studio.histogram(0, channel, Integer.MIN_VALUE), 0);
        }
        studio.select(0, 0, 0, Make.size(2, 1));
        Check.same("24: selected places alone", studio.histogram(0, 0, 1), 1);
        Check.same("24: selected places alone, blue", studio.histogram(0, 2, 3), 2);
        studio.select(0, 0, 0, 0);
        Check.same("24: none selected", studio.histogram(0, 2, 3), 0);
        studio.layer(1);
        Make.selectAll(studio);
        Check.same("24: another layer", studio.histogram(1, 0, 0), 8);
    }

    private static void histogramRefuses() {
        TileStudio studio = Make.studio(2, 2);
        Check.refusesNumber("24: layer 1", () -> studio.histogram(1, 0, 0));
        Check.refusesNumber("24: layer -1", () -> studio.histogram(-1, 0, 0));
        Check.refusesNumber("24: channel 4", () -> studio.histogram(0, 4, 0));
        Check.refusesNumber("24: channel -1", () -> studio.histogram(0, -1, 0));
        Check.refusesNumber("24: whatever the value", () -> studio.histogram(0, 4, 999));
        Check.same("24: no step", studio.count(1), 0);
    }
}
