/** Promises 8 to 12: brush, fill, gradient, stroke, flood. */
public final class PaintTest {
    private static final int RED = 0xFF0000FF;
    private static final int BLUE = 0x0000FFFF;

    public static void main(String[] args) {
        brush();
        fill();
        gradient();
        gradientWhereSelected();
        gradientRefuses();
        strokeLine();
        strokeDisc();
        strokeFromOutside();
        strokeBlends();
        strokeWhereSelected();
        strokeRefuses();
        floodReaches();
        floodTolerance();
        floodSelected();
        floodWindingWay();
        floodRefuses();
        Check.finish();
    }

    private static void brush() {
        TileStudio studio = Make.studio(24, 1);
        studio.brush(RED, 7);
        Check.refusesNumber("8: radius -1", () -> studio.brush(BLUE, -1));
        Check.refusesNumber("8: radius 8", () -> studio.brush(BLUE, 8));
        Check.same("8: no step", studio.count(1), 0);
        studio.stroke(0, Make.at(8, 0), Make.at(8, 0));
        Check.same("8: a refusal leaves the brush", studio.histogram(0, 0, 255), 15);
        studio.undo();
        studio.brush(BLUE, 0);
        Check.same("8: done again stays", studio.count(2), 1);
        studio.stroke(0, Make.at(8, 0), Make.at(8, 0));
        Check.same("8: radius 0", studio.histogram(0, 2, 255), 1);
        Check.sameDot("8: the other dot", studio.dot(0, 0, 8, 0), BLUE);
        studio.undo();
        studio.stroke(0, Make.at(9, 0), Make.at(9, 0));
        Check.sameDot("8: steps back leave the brush", studio.dot(0, 0, 9, 0), BLUE);
    }

    private static void fill() {
        TileStudio studio = Make.studio(3, 2);
        studio.layer(1);
        studio.select(0, 1, 0, Make.size(2, 1));
        studio.fill(1, RED);
        Make.checkRow("9: selected", studio, 1, 0, 0, RED, RED);
        Make.checkRow("9: not selected", studio, 1, 1, 0, 0, 0);
        Make.checkRow("9: the other layer", studio, 0, 0, 0, 0, 0);
        studio.fill(1, 0x12345600);
        Make.checkRow("9: it takes the place, even a clear one", studio, 1, 0, 0, 0x12345600, 0x12345600);
        studio.fill(1, 0x12345600);
        Check.same("9: a step, even if nothing changes", studio.count(1), 5);
        Check.refusesNumber("9: layer 2", () -> studio.fill(2, 1));
        Check.refusesNumber("9: layer -1", () -> studio.fill(-1, 1));
        Check.same("9: refused, no step", studio.count(1), 5);
    }

    private static void gradient() {
        TileStudio studio = Make.studio(4, 2);
        studio.gradient(0, 0x000A00FF, 0xFF050000, 0);
        for (int y = 0; y < 2; y++) {
            Make.checkRow("10: along x", studio, 0, y, 0x000A00FF, 0x550800AA, 0xAA070055, 0xFF050000);
        }
        studio.gradient(0, 0x00000001, 0xFFFFFF04, 1);
        Make.checkRow("10: along y, first", studio, 0, 0, 1, 1, 1, 1);
        Make.checkRow("10: along y, last", studio, 0, 1, 0xFFFFFF04, 0xFFFFFF04, 0xFFFFFF04, 0xFFFFFF04);
        TileStudio three = Make.studio(1, 3);
        three.gradient(0, 0x00000001, 0xFFFFFF04, 1);
        // n is 2: (255 + 1) / 2 and (1 + 4 + 1) / 2.
        Check.sameDot("10: halfway", three.dot(0, 0, 0, 1), 0x80808003);
        three.gradient(0, 0x11223344, 0x55667788, 0);
        for (int y = 0; y < 3; y++) {
            Check.sameDot("10: n 0 along x", three.dot(0, 0, 0, y), 0x11223344);
        }
        TileStudio flat = Make.studio(3, 1);
        flat.gradient(0, 0x81223344, 0x55667788, 1);
        Make.checkRow("10: n 0 along y", flat, 0, 0, 0x81223344, 0x81223344, 0x81223344);
    }

    private static void gradientWhereSelected() {
        TileStudio studio = Make.studio(4, 1);
        studio.select(0, 1, 0, Make.size(2, 1));
        studio.gradient(0, 0x000A00FF, 0xFF050000, 0);
        Make.checkRow("10: where selected", studio, 0, 0, 0, 0x550800AA, 0xAA070055, 0);
        Check.same("10: a step", studio.count(1), 2);
    }

    private static void gradientRefuses() {
        TileStudio studio = Make.studio(4, 1);
        Check.refusesNumber("10: layer 1", () -> studio.gradient(1, -1, -1, 0));
        Check.refusesNumber("10: layer -1", () -> studio.gradient(-1, -1, -1, 0));
        Check.refusesNumber("10: axis 2", () -> studio.gradient(0, -1, -1, 2));
        Check.refusesNumber("10: axis -1", () -> studio.gradient(0, -1, -1, -1));
        Check.same("10: refused, no step", studio.count(1), 0);
        Check.sameDot("10: refused", studio.dot(0, 0, 0, 0), 0);
    }

    private static void checkPainted(String what, TileStudio studio, String... rows) {
        for (int y = 0; y < rows.length; y++) {
            for (int x = 0; x < rows[y].length(); x++) {
                int due = rows[y].charAt(x) == '#' ? RED : 0;
                Check.sameDot(what + ", dot " + x + ", " + y, studio.dot(0, 0, x, y), due);
            }
        }
    }

    private static TileStudio stroked(int width, int height, int radius, int from, int to) {
        TileStudio studio = Make.studio(width, height);
        studio.brush(RED, radius);
        studio.stroke(0, from, to);
        return studio;
    }

    private static void strokeLine() {
        String[] gentle = {"#....", ".##..", "...##"};
        checkPainted("11: a line", stroked(5, 3, 0, Make.at(0, 0), Make.at(4, 2)), gentle);
        checkPainted("11: the line from its end", stroked(5, 3, 0, Make.at(4, 2), Make.at(0, 0)), gentle);
        String[] rising = {"...", "..#", "##."};
        checkPainted("11: halves go up", stroked(3, 3, 0, Make.at(0, 2), Make.at(2, 1)), rising);
        checkPainted("11: and do so from its end", stroked(3, 3, 0, Make.at(2, 1), Make.at(0, 2)), rising);
        // n is 3: x is (2 k + 3) / 6, 0 0 1 1 for k 0 .. 3.
        checkPainted("11: a steep one", stroked(2, 4, 0, Make.at(0, 0), Make.at(1, 3)), "#.", "#.", ".#", ".#");
        checkPainted("11: a steep one with a half", stroked(2, 3, 0, Make.at(0, 0), Make.at(1, 2)), "#.", ".#", ".#");
        checkPainted("11: one place", stroked(3, 2, 0, Make.at(1, 1), Make.at(1, 1)), "...", ".#.");
        checkPainted("11: level", stroked(4, 2, 0, Make.at(3, 0), Make.at(1, 0)), ".###", "....");
        checkPainted("11: upright", stroked(2, 4, 0, Make.at(1, 3), Make.at(1, 1)), "..", ".#", ".#", ".#");
    }

    private static void strokeDisc() {
        checkPainted("11: radius 2", stroked(5, 5, 2, Make.at(2, 2), Make.at(2, 2)),
                "..#..", ".###.", "#####", ".###.", "..#..");
        checkPainted("11: radius 1 on a line", stroked(5, 3, 1, Make.at(1, 1), Make.at(3, 1)),
                ".###.", "#####", ".###.");
        TileStudio great = stroked(24, 24, 7, Make.at(12, 12), Make.at(12, 12));
        Check.same("11: radius 7", great.histogram(0, 0, 255), 149);
        // 3 and 4 make 5: the dot at this very distance is reached.
        TileStudio five = stroked(24, 24, 5, Make.at(12, 12), Make.at(12, 12));
        Check.sameDot("11: at the distance of the radius", five.dot(0, 0, 15, 16), RED);
        Check.sameDot("11: just beyond", five.dot(0, 0, 16, 16), 0);
    }

    private static void strokeFromOutside() {
        // From -3, -3 the dot 0, 0 has the distance 18, the dots 1, 0 and 0, 1 have 25, squared.
        checkPainted("11: from outside", stroked(3, 3, 5, Make.at(-3, -3), Make.at(-3, -3)), "##.", "#..", "...");
        checkPainted("11: too far away", stroked(3, 3, 4, Make.at(-3, -3), Make.at(-3, -3)), "...", "...", "...");
        checkPainted("11: from corner to corner", stroked(3, 3, 0, Make.at(-100, -100), Make.at(100, 100)),
                "#..", ".#.", "..#");
        checkPainted("11: across", stroked(3, 2, 0, Make.at(100, 1), Make.at(-100, 1)), "...", "###");
        // At x = 0, the step 100 of 200, y is 1 + (2 * 100 + 200) / 400.
        checkPainted("11: nearly level", stroked(3, 3, 0, Make.at(-100, 1), Make.at(100, 2)), "...", "...", "###");
    }

    private static void strokeBlends() {
        TileStudio studio = Make.studio(4, 1);
        studio.fill(0, -1);
        studio.brush(0x00000080, 1);
        studio.stroke(0, Make.at(0, 0), Make.at(1, 0));
        // Each is reached by more than one place, and yet blended once: (128 * 0 + 127 * 255) / 255 rounded.
        Make.checkRow("11: blended once", studio, 0, 0, 0x7F7F7FFF, 0x7F7F7FFF, 0x7F7F7FFF, -1);
        studio.layer(1);
        studio.mode(1, 5, 0, false);
        studio.brush(0x0A141E80, 0);
        studio.stroke(1, Make.at(2, 0), Make.at(2, 0));
        Make.checkRow("11: onto a clear dot, whatever the layer's mode", studio, 1, 0, 0, 0, 0x0A141E80, 0);
        // s = b = 128, t = 128 * 255 + 128 * 127 = 48896: cover (48896 + 127) / 255 = 192.
        studio.brush(0x32000080, 0);
        studio.stroke(1, Make.at(2, 0), Make.at(2, 0));
        // Red (32640 * 50 + 16256 * 10 + 24448) / 48896 = 37, green 349568 / 48896 = 7, blue 512128 / 48896 = 10.
        Check.sameDot("11: clear things mix", studio.dot(1, 0, 2, 0), 0x25070AC0);
        studio.brush(0x11223300, 0);
        studio.stroke(1, Make.at(2, 0), Make.at(2, 0));
        Check.sameDot("11: a clear brush changes no dot that is not clear", studio.dot(1, 0, 2, 0), 0x25070AC0);
    }

    private static void strokeWhereSelected() {
        TileStudio studio = Make.studio(5, 1);
        studio.brush(RED, 1);
        studio.select(0, 1, 0, Make.size(1, 1));
        studio.select(1, 4, 0, Make.size(1, 1));
        studio.stroke(0, Make.at(2, 0), Make.at(2, 0));
        checkPainted("11: where selected", studio, ".#...");
        studio.stroke(0, Make.at(50, 50), Make.at(60, 50));
        Check.same("11: a step, even if nothing changes", studio.count(1), 4);
    }

    private static void strokeRefuses() {
        TileStudio studio = Make.studio(2, 2);
        studio.brush(RED, 7);
        int[] wrong = {-101, 101, -32768, 32767};
        for (int number : wrong) {
            Check.refusesNumber("11: x0 " + number, () -> studio.stroke(0, Make.at(number, 0), 0));
            Check.refusesNumber("11: y0 " + number, () -> studio.stroke(0, Make.at(0, number), 0));
            Check.refusesNumber("11: x1 " + number, () -> studio.stroke(0, 0, Make.at(number, 0)));
            Check.refusesNumber("11: y1 " + number, () -> studio.stroke(0, 0, Make.at(0, number)));
        }
        Check.refusesNumber("11: layer 1", () -> studio.stroke(1, 0, 0));
        Check.refusesNumber("11: layer -1", () -> studio.stroke(-1, 0, 0));
        Check.same("11: refused, no step", studio.count(1), 0);
        checkPainted("11: refused", studio, "..", "..");
    }

    private static void floodReaches() {
        TileStudio studio = Make.studio(4, 3);
        Make.putRow(studio, 0, 0, 0, 0, RED, 0);
        Make.putRow(studio, 0, 1, 0, RED, 0, 0);
        Make.putRow(studio, 0, 2, 0, RED, 0, RED);
        Check.same("12: not across corners", studio.flood(0, 0, 2, BLUE, 0), 4);
        Make.checkRow("12: row 0", studio, 0, 0, BLUE, BLUE, RED, 0);
        Make.checkRow("12: row 1", studio, 0, 1, BLUE, RED, 0, 0);
        Make.checkRow("12: row 2", studio, 0, 2, BLUE, RED, 0, RED);
        Check.same("12: right, up and down", studio.flood(0, 2, 1, BLUE, 0), 4);
        Make.checkRow("12: row 0 then", studio, 0, 0, BLUE, BLUE, RED, BLUE);
        Make.checkRow("12: row 1 then", studio, 0, 1, BLUE, RED, BLUE, BLUE);
        Make.checkRow("12: row 2 then", studio, 0, 2, BLUE, RED, BLUE, RED);
        int steps = studio.count(1);
        Check.same("12: with the dot that is there", studio.flood(0, 3, 2, RED, 0), 1);
        Check.same("12: at most six steps", studio.count(1), Math.min(6, steps + 1));
    }

    private static void floodTolerance() {
        TileStudio studio = Make.studio(4, 1);
        Make.putRow(studio, 0, 0, 0x00000000, 0x0A0A0A0A, 0x14141414, 0x0A0A0A0A);
        Check.same("12: against the first dot", studio.flood(0, 0, 0, BLUE, 10), 2);
        Make.checkRow("12: against the first dot", studio, 0, 0, BLUE, BLUE, 0x14141414, 0x0A0A0A0A);
        for (int shift = 0; shift < 32; shift += 8) {
            TileStudio one = Make.studio(3, 1);
            one.fill(0, 0x80808080);
            Make.put(one, 0, 0, 0, 0x80808080 + (5 << shift));
            Make.put(one, 0, 2, 0, 0x80808080 - (5 << shift));
            Check.same("12: tolerance 4, byte at " + shift, one.flood(0, 1, 0, 0x80808080, 4), 1);
            Check.same("12: tolerance 5, byte at " + shift, one.flood(0, 1, 0, 0x80808080, 5), 3);
        }
        TileStudio all = Make.studio(3, 1);
        Make.putRow(all, 0, 0, 0, -1, 0x00FF00FF);
        Check.same("12: tolerance 255", all.flood(0, 0, 0, RED, 255), 3);
        Make.checkRow("12: tolerance 255", all, 0, 0, RED, RED, RED);
    }

    private static void floodSelected() {
        TileStudio studio = Make.studio(5, 1);
        studio.select(2, 2, 0, Make.size(1, 1));
        Check.same("12: over selected ones alone", studio.flood(0, 0, 0, RED, 255), 2);
        checkPainted("12: over selected ones alone", studio, "##...");
        Check.same("12: a place that is not selected", studio.flood(0, 2, 0, RED, 255), 0);
        checkPainted("12: a place that is not selected", studio, "##...");
        Check.same("12: a step, even if nothing changes", studio.count(1), 3);
    }

    private static void floodWindingWay() {
        TileStudio studio = Make.studio(24, 24);
        studio.select(2, 0, 1, Make.size(23, 1));
        for (int y = 3; y < 24; y += 2) {
            studio.select(2, y % 4 == 3 ? 1 : 0, y, Make.size(23, 1));
        }
        // Twelve rows of 24 and twelve places that join them (the last one leads nowhere).
        Check.same("12: a way that winds", studio.flood(0, 0, 0, RED, 0), 300);
        Check.same("12: and comes to its end", studio.dot(0, 0, 0, 22), RED);
        Check.same("12: leaving the walls", studio.dot(0, 0, 1, 1), 0);
        Check.same("12: from its end", studio.flood(0, 0, 22, BLUE, 0), 300);
        Check.same("12: back to its start", studio.dot(0, 0, 0, 0), BLUE);
    }

    private static void floodRefuses() {
        TileStudio studio = Make.studio(3, 2);
        Check.refusesNumber("12: layer 1", () -> studio.flood(1, 0, 0, RED, 0));
        Check.refusesNumber("12: layer -1", () -> studio.flood(-1, 0, 0, RED, 0));
        Check.refusesNumber("12: x 3", () -> studio.flood(0, 3, 0, RED, 0));
        Check.refusesNumber("12: x -1", () -> studio.flood(0, -1, 0, RED, 0));
        Check.refusesNumber("12: y 2", () -> studio.flood(0, 0, 2, RED, 0));
        Check.refusesNumber("12: y -1", () -> studio.flood(0, 0, -1, RED, 0));
        Check.refusesNumber("12: tolerance -1", () -> studio.flood(0, 0, 0, RED, -1));
        Check.refusesNumber("12: tolerance 256", () -> studio.flood(0, 0, 0, RED, 256));
        Check.same("12: refused, no step", studio.count(1), 0);
        checkPainted("12: refused", studio, "...", "...");
    }
}
