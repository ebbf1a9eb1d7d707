import java.util.List;
import java.util.NoSuchElementException;
import java.util.function.Consumer;

/** The sentences of the promises 9 to 17 that name an edge, and those on tools, each with a test of its own. */
public final class ToolEdgeTest {
    private static final int RED = 0xFF0000FF;
    private static final int BLUE = 0x0000FFFF;

    /** Each tool, so that it changes a dot of what numbered makes; the flood is the fourth. */
    private static final List<Consumer<TileStudio>> TOOLS = List.of(
            s -> s.fill(0, RED),
            s -> s.gradient(0, RED, BLUE, 0),
            s -> s.stroke(0, Make.at(0, 1), Make.at(2, 1)),
            s -> s.flood(0, 0, 0, RED, 255),
            s -> s.paste(0, 0, 0),
            s -> s.mirror(0, 0),
            s -> s.shift(0, 1, 1),
            s -> s.blur(0, 1));

    public static void main(String[] args) {
        nothingSelected();
        oneSelected();
        otherLayersStay();
        allAtOnce();
        fillWithAnyDot();
        gradientEnds();
        gradientOfOne();
        gradientRounds();
        strokeFromEndToEnd();
        strokeOfOnePlace();
        strokeHalvesRoundDown();
        strokeReach();
        strokeOnce();
        strokeWithAClearBrush();
        strokeLimits();
        floodOfUnselected();
        floodOverSelectedAlone();
        floodLongWay();
        floodTolerances();
        floodNoPlace();
        copyOfNoneAndAll();
        pasteOfNoDots();
        pasteOverTheEdges();
        pasteLimits();
        mirrorMiddle();
        shiftEdges();
        blurEdges();
        blurRounds();
        Check.finish();
    }

    /** 3 by 2, dots 0x01010101, 0x02020202 and so on; what was copied are dots 0x77777777, the brush reaches all. */
    private static TileStudio numbered() {
        TileStudio studio = Make.studio(3, 2);
        studio.fill(0, 0x77777777);
        studio.copy(0);
        for (int place = 0; place < 6; place++) {
            Make.put(studio, 0, place % 3, place / 3, (place + 1) * 0x01010101);
        }
        studio.brush(BLUE, 7);
        return studio;
    }

    // Terms: "TOOLS change dots of one layer, selected ones alone", and of none selected none, which is a step yet.
    private static void nothingSelected() {
        for (int tool = 0; tool < TOOLS.size(); tool++) {
            TileStudio studio = Make.studio(3, 2);
            studio.copy(0);
            studio.fill(0, 0x0A0B0C0D);
            studio.brush(BLUE, 7);
            studio.select(0, 0, 0, 0);
            TOOLS.get(tool).accept(studio);
            for (int y = 0; y < 2; y++) {
                Make.checkRow("Terms: none selected, tool " + tool, studio, 0, y, 0x0A0B0C0D, 0x0A0B0C0D, 0x0A0B0C0D);
            }
            Check.same("Terms: a step, even if nothing changes, tool " + tool, studio.count(1), 3);
            Check.holds("Terms: it is taken back, tool " + tool, studio.undo());
            Check.same("Terms: it can be done again, tool " + tool, studio.count(2), 1);
        }
    }

    // Terms: "selected ones alone": the last place is selected, all others keep their dots.
    private static void oneSelected() {
        for (int tool = 0; tool < TOOLS.size(); tool++) {
            TileStudio studio = numbered();
            Make.selectOne(studio, 2, 1);
            TOOLS.get(tool).accept(studio);
            for (int place = 0; place < 5; place++) {
                Check.sameDot("Terms: place " + place + " is not selected, tool " + tool,
                        studio.dot(0, 0, place % 3, place / 3), (place + 1) * 0x01010101);
            }
            // The flood begins at 0, 0, which is not selected.
            boolean changes = tool != 3;
            Check.holds("Terms: the one selected, tool " + tool, changes == (studio.dot(0, 0, 2, 1) != 0x06060606));
        }
    }

    // Terms: "TOOLS change dots of one layer"
    private static void otherLayersStay() {
        for (int tool = 0; tool < TOOLS.size(); tool++) {
            TileStudio studio = Make.studio(3, 2);
            studio.copy(0);
            studio.fill(0, 0x0A0B0C0D);
            studio.layer(0);
            studio.layer(2);
            studio.fill(2, 0x0E0F1011);
            studio.brush(BLUE, 7);
            TOOLS.get(tool).accept(studio);
            Check.same("Terms: the dots of layer 1 stay, tool " + tool, studio.histogram(1, 0, 0x0A), 6);
            Check.same("Terms: the dots of layer 2 stay, tool " + tool, studio.histogram(2, 3, 0x11), 6);
        }
    }

    // Terms: "all at once (what they look at is as it was before)"
    private static void allAtOnce() {
        TileStudio mirrored = numbered();
        mirrored.mirror(0, 0);
        Make.checkRow("Terms: mirror, all at once", mirrored, 0, 0, 0x03030303, 0x02020202, 0x01010101);
        TileStudio right = numbered();
        right.shift(0, 1, 0);
        Make.checkRow("Terms: shift to the right, all at once", right, 0, 1, 0, 0x04040404, 0x05050505);
        TileStudio left = numbered();
        left.shift(0, -1, 0);
        Make.checkRow("Terms: shift to the left, all at once", left, 0, 0, 0x02020202, 0x03030303, 0);
        TileStudio blurred = Make.studio(3, 1);
        Make.putRow(blurred, 0, 0, 90, 0, 0);
        blurred.blur(0, 1);
        Make.checkRow("Terms: blur, all at once", blurred, 0, 0, 10, 10, 0);
        TileStudio flooded = Make.studio(3, 1);
        Make.putRow(flooded, 0, 0, 10, 20, 30);
        // Against the 10 that was at 0, 0: neither against the new dot 25 there nor against the neighbour's 20.
        Check.same("Terms: flood, all at once", flooded.flood(0, 0, 0, 25, 10), 2);
        Make.checkRow("Terms: flood, all at once", flooded, 0, 0, 25, 25, 30);
        TileStudio pasted = numbered();
        pasted.copy(0);
        pasted.paste(0, 1, 0);
        Make.checkRow("Terms: paste, all at once", pasted, 0, 0, 0x01010101, 0x01010101, 0x02020202);
    }

    // 9: "Each dot becomes this."
    private static void fillWithAnyDot() {
        for (int dot : new int[] {0, 1, -1, 0xFFFFFF00, Integer.MIN_VALUE, Integer.MAX_VALUE}) {
            TileStudio studio = Make.studio(24, 24);
            studio.fill(0, 0x0A0B0C0D);
            studio.fill(0, dot);
            Check.sameDot("9: the first dot", studio.dot(0, 0, 0, 0), dot);
            Check.sameDot("9: the last dot", studio.dot(0, 0, 23, 23), dot);
            Check.same("9: each dot", studio.histogram(0, 3, dot & 0xFF), 576);
        }
    }

    // 10: "(first * (n - k) + last * k + n / 2) / n" is first for k 0 and last for k n, each byte for itself.
    private static void gradientEnds() {
        for (int side = 2; side <= 24; side++) {
            TileStudio across = Make.studio(side, 1);
            across.gradient(0, 0xFF00FF01, 0x00FF00FE, 0);
            Check.sameDot("10: first along x, width " + side, across.dot(0, 0, 0, 0), 0xFF00FF01);
            Check.sameDot("10: last along x, width " + side, across.dot(0, 0, side - 1, 0), 0x00FF00FE);
            TileStudio down = Make.studio(1, side);
            down.gradient(0, 0xFF00FF01, 0x00FF00FE, 1);
            Check.sameDot("10: first along y, height " + side, down.dot(0, 0, 0, 0), 0xFF00FF01);
            Check.sameDot("10: last along y, height " + side, down.dot(0, 0, 0, side - 1), 0x00FF00FE);
        }
    }

    // 10: "first if n is 0"
    private static void gradientOfOne() {
        TileStudio narrow = Make.studio(1, 2);
        narrow.gradient(0, 0x11223344, 0x55667788, 0);
        Check.sameDot("10: n 0 along x, above", narrow.dot(0, 0, 0, 0), 0x11223344);
        Check.sameDot("10: n 0 along x, below", narrow.dot(0, 0, 0, 1), 0x11223344);
        narrow.gradient(0, 0x11223344, 0x55667788, 1);
        Check.sameDot("10: along y n is 1", narrow.dot(0, 0, 0, 1), 0x55667788);
        TileStudio flat = Make.studio(2, 1);
        flat.gradient(0, 0x11223344, 0x55667788, 1);
        Make.checkRow("10: n 0 along y", flat, 0, 0, 0x11223344, 0x11223344);
        TileStudio one = Make.studio(1, 1);
        one.gradient(0, 0xFFFFFFFF, 0, 0);
        Check.sameDot("10: one dot along x", one.dot(0, 0, 0, 0), -1);
        one.gradient(0, 0x80000000, 0, 1);
        Check.sameDot("10: one dot along y", one.dot(0, 0, 0, 0), 0x80000000);
    }

    // 10: "+ n / 2) / n" for an even n (halves go up) and an odd one.
    private static void gradientRounds() {
        TileStudio three = Make.studio(3, 1);
        three.gradient(0, 0x00010001, 0x01000002, 0);
        // n = 2, k = 1: (0 + 1 + 1) / 2, (1 + 0 + 1) / 2, 1 / 2, (1 + 2 + 1) / 2.
        Check.sameDot("10: halves go up", three.dot(0, 0, 1, 0), 0x01010002);
        TileStudio four = Make.studio(4, 1);
        four.gradient(0, 0x00010002, 0x01000001, 0);
        // n = 3: red (k + 1) / 3, green (3 - k + 1) / 3, blue 1 / 3, cover (6 - k + 1) / 3.
        Make.checkRow("10: thirds", four, 0, 0, 0x00010002, 0x00010002, 0x01000001, 0x01000001);
    }

    private static void checkPainted(String what, TileStudio studio, String... rows) {
        for (int y = 0; y < rows.length; y++) {
            for (int x = 0; x < rows[y].length(); x++) {
                int due = rows[y].charAt(x) == '#' ? RED : 0;
                Check.sameDot(what + ", dot " + x + ", " + y, studio.dot(0, 0, x, y), due);
            }
        }
    }

    private static TileStudio stroked(int width, int height, int radius, int from, int to) {
        TileStudio studio = Make.studio(width, height);
        studio.brush(RED, radius);
        studio.stroke(0, from, to);
        return studio;
    }

    // 11: "at steps k = 0 .. n": both ends are painted, and nothing beyond them.
    private static void strokeFromEndToEnd() {
        checkPainted("11: to the right", stroked(5, 1, 0, Make.at(1, 0), Make.at(3, 0)), ".###.");
        checkPainted("11: to the left", stroked(5, 1, 0, Make.at(3, 0), Make.at(1, 0)), ".###.");
        checkPainted("11: down", stroked(1, 5, 0, Make.at(0, 1), Make.at(0, 3)), ".", "#", "#", "#", ".");
        checkPainted("11: up", stroked(1, 5, 0, Make.at(0, 3), Make.at(0, 1)), ".", "#", "#", "#", ".");
    }

    // 11: "the one place if n is 0"
    private static void strokeOfOnePlace() {
        int corner = Make.at(2, 1);
        checkPainted("11: a corner", stroked(3, 2, 0, corner, corner), "...", "..#");
        checkPainted("11: 0, 0", stroked(3, 2, 0, 0, 0), "#..", "...");
        checkPainted("11: beyond the edge", stroked(3, 2, 0, Make.at(3, 1), Make.at(3, 1)), "...", "...");
        checkPainted("11: -1, -1", stroked(3, 2, 0, Make.at(-1, -1), Make.at(-1, -1)), "...", "...");
        checkPainted("11: n 1", stroked(3, 2, 0, Make.at(0, 0), Make.at(1, 1)), "#..", ".#.");
    }

    // 11: "(2 k (x1 - x0) + n) / (2 n), likewise y; the quotient rounded down", below 0 too.
    private static void strokeHalvesRoundDown() {
        // n = 2, k = 1: (2 + 2) / 4 = 1 downwards, (-2 + 2) / 4 = 0 upwards.
        checkPainted("11: half downwards", stroked(3, 2, 0, Make.at(0, 0), Make.at(2, 1)), "#..", ".##");
        checkPainted("11: half upwards", stroked(3, 2, 0, Make.at(0, 1), Make.at(2, 0)), "..#", "##.");
        checkPainted("11: half to the right", stroked(2, 3, 0, Make.at(0, 0), Make.at(1, 2)), "#.", ".#", ".#");
        checkPainted("11: half to the left", stroked(2, 3, 0, Make.at(1, 0), Make.at(0, 2)), ".#", ".#", "#.");
        // n = 4, up by 3: (-6 k + 4) / 8 are 4 / 8, -2 / 8, -8 / 8, -14 / 8, -20 / 8, rounded down 0, -1, -1, -2, -3.
        checkPainted("11: quotients below 0", stroked(5, 4, 0, Make.at(0, 3), Make.at(4, 0)),
                "....#", "...#.", ".##..", "#....");
        // n = 4, to the left by 3.
        checkPainted("11: quotients below 0 in x", stroked(4, 5, 0, Make.at(3, 0), Make.at(0, 4)),
                "...#", "..#.", "..#.", ".#..", "#...");
    }

    // 11: "each dot whose distance to one of them is at most the radius (squares are compared)"
    private static void strokeReach() {
        int[] due = {1, 5, 13, 29, 49, 81, 113, 149};
        for (int radius = 0; radius <= 7; radius++) {
            TileStudio studio = stroked(24, 24, radius, Make.at(12, 12), Make.at(12, 12));
            Check.same("11: dots of radius " + radius, studio.histogram(0, 0, 255), due[radius]);
            Check.sameDot("11: at this distance to the right", studio.dot(0, 0, 12 + radius, 12), RED);
            Check.sameDot("11: at this distance upwards", studio.dot(0, 0, 12, 12 - radius), RED);
            Check.sameDot("11: one more to the left", studio.dot(0, 0, 11 - radius, 12), 0);
            Check.sameDot("11: one more downwards", studio.dot(0, 0, 12, 13 + radius), 0);
        }
        TileStudio five = stroked(24, 24, 5, Make.at(12, 12), Make.at(12, 12));
        Check.sameDot("11: 9 + 16 is 25", five.dot(0, 0, 9, 8), RED);
        Check.sameDot("11: 16 + 16 is more", five.dot(0, 0, 8, 8), 0);
        checkPainted("11: from outside", stroked(2, 2, 7, Make.at(-7, 0), Make.at(-7, 0)), "#.", "..");
        checkPainted("11: out of reach", stroked(2, 2, 7, Make.at(0, -8), Make.at(0, -8)), "..", "..");
    }

    // 11: "is blended with the brush's dot, once, NORMAL with opacity 255"
    private static void strokeOnce() {
        TileStudio studio = Make.studio(3, 1);
        // The layer's own mode (multiplied, all would stay black) and opacity are not the brush's.
        studio.mode(0, 1, 1, false);
        studio.fill(0, 0x000000FF);
        studio.brush(0xFFFFFF80, 7);
        studio.stroke(0, Make.at(0, 0), Make.at(2, 0));
        // s = 128: (128 * 255 * 255 + 32512) / 65025 = 128.
        Make.checkRow("11: once", studio, 0, 0, 0x808080FF, 0x808080FF, 0x808080FF);
        studio.brush(0xFFFFFFFF, 0);
        studio.stroke(0, Make.at(1, 0), Make.at(1, 0));
        Check.sameDot("11: a full brush", studio.dot(0, 0, 1, 0), -1);
    }

    // 11, and "Each colour is 0 if t is 0": a clear brush leaves what is not clear and makes what is clear 0.
    private static void strokeWithAClearBrush() {
        TileStudio studio = Make.studio(3, 1);
        Make.putRow(studio, 0, 0, 0x0A0B0C01, 0x0A0B0C00, 0x0A0B0CFF);
        studio.brush(0xFFFFFF00, 7);
        studio.stroke(0, Make.at(1, 0), Make.at(1, 0));
        Make.checkRow("11: a clear brush", studio, 0, 0, 0x0A0B0C01, 0, 0x0A0B0CFF);
    }

    // 11: "from is x0 in its lower 16 bits and y0 in its upper ones, both with sign", "is not -100 .. 100"
    private static void strokeLimits() {
        checkPainted("11: from -100", stroked(2, 2, 0, Make.at(-100, 0), Make.at(1, 0)), "##", "..");
        checkPainted("11: to 100", stroked(2, 2, 0, Make.at(0, 0), Make.at(0, 100)), "#.", "#.");
        checkPainted("11: both signs", stroked(2, 2, 0, Make.at(100, 100), Make.at(-100, -100)), "#.", ".#");
        checkPainted("11: x below 0, y not", stroked(2, 2, 0, Make.at(-1, 1), Make.at(0, 1)), "..", "#.");
        checkPainted("11: y below 0, x not", stroked(2, 2, 0, Make.at(1, -1), Make.at(1, 0)), ".#", "..");
        TileStudio studio = Make.studio(2, 2);
        studio.brush(RED, 7);
        for (int far : new int[] {-101, 101}) {
            Check.refusesNumber("11: x0 " + far, () -> studio.stroke(0, Make.at(far, 0), 0));
            Check.refusesNumber("11: y0 " + far, () -> studio.stroke(0, Make.at(0, far), 0));
            Check.refusesNumber("11: x1 " + far, () -> studio.stroke(0, 0, Make.at(far, 0)));
            Check.refusesNumber("11: y1 " + far, () -> studio.stroke(0, 0, Make.at(0, far)));
        }
        checkPainted("11: refused", studio, "..", "..");
        Check.same("11: refused, no step", studio.count(1), 0);
    }

    // 12: "how many (0 if x, y is not selected)"
    private static void floodOfUnselected() {
        TileStudio studio = Make.studio(3, 1);
        studio.select(2, 1, 0, Make.size(1, 1));
        Check.same("12: x, y is not selected", studio.flood(0, 1, 0, RED, 255), 0);
        checkPainted("12: no dot", studio, "...");
        Check.same("12: a step yet", studio.count(1), 2);
        studio.select(0, 0, 0, 0);
        Check.same("12: nothing is selected", studio.flood(0, 0, 0, RED, 255), 0);
        TileStudio all = Make.studio(24, 24);
        Check.same("12: all, from one corner to the other", all.flood(0, 23, 23, RED, 0), 576);
        Check.same("12: all once more, with the dot that is there", all.flood(0, 0, 0, RED, 0), 576);
        Check.same("12: one place", Make.studio(1, 1).flood(0, 0, 0, RED, 0), 1);
    }

    // 12: "reached from x, y by steps left, right, up and down over selected ones"
    private static void floodOverSelectedAlone() {
        TileStudio studio = Make.studio(3, 3);
        studio.select(2, 1, 0, Make.size(1, 2));
        studio.select(2, 1, 2, Make.size(1, 1));
        Check.same("12: a wall of what is not selected", studio.flood(0, 0, 1, RED, 255), 3);
        checkPainted("12: left of the wall", studio, "#..", "#..", "#..");
        studio.select(1, 1, 2, Make.size(1, 1));
        Check.same("12: through the gap, all within tolerance", studio.flood(0, 2, 0, RED, 255), 7);
        checkPainted("12: round the wall", studio, "#.#", "#.#", "###");
        TileStudio corners = Make.studio(2, 2);
        corners.select(2, 1, 0, Make.size(1, 1));
        corners.select(2, 0, 1, Make.size(1, 1));
        Check.same("12: not over a corner", corners.flood(0, 0, 0, RED, 255), 1);
        checkPainted("12: not over a corner", corners, "#.", "..");
        TileStudio between = Make.studio(1, 5);
        between.select(2, 0, 1, Make.size(1, 1));
        between.select(2, 0, 3, Make.size(1, 1));
        Check.same("12: not over a row that is not selected", between.flood(0, 0, 2, RED, 255), 1);
        checkPainted("12: neither up nor down", between, ".", ".", "#", ".", ".");
        // The row's end and the next row's beginning are no neighbours.
        TileStudio rows = Make.studio(24, 2);
        rows.select(0, 23, 0, Make.size(1, 1));
        rows.select(1, 0, 1, Make.size(1, 1));
        Check.same("12: not from a row's end to the next one", rows.flood(0, 23, 0, RED, 255), 1);
        Check.same("12: nor back", rows.flood(0, 0, 1, RED, 255), 1);
    }

    // 12: "reached from x, y by steps", however many it takes: rows of 24, joined at their ends by turns.
    private static void floodLongWay() {
        TileStudio studio = Make.studio(24, 24);
        for (int y = 1; y < 24; y += 2) {
            studio.select(2, y % 4 == 1 ? 0 : 1, y, Make.size(23, 1));
        }
        Check.same("12: from the beginning", studio.flood(0, 0, 0, RED, 0), 12 * 24 + 12);
        Check.same("12: from the end", studio.flood(0, 0, 23, BLUE, 0), 12 * 24 + 12);
        Check.sameDot("12: back to the beginning", studio.dot(0, 0, 0, 0), BLUE);
    }

    // 12: "each byte of whose dot differs from that at x, y by at most tolerance", "tolerance is not 0 .. 255"
    private static void floodTolerances() {
        for (int shift = 0; shift < 32; shift += 8) {
            TileStudio studio = Make.studio(3, 1);
            Make.putRow(studio, 0, 0, 0x80808080 - (7 << shift), 0x80808080, 0x80808080 + (7 << shift));
            Check.same("12: less than they differ", studio.flood(0, 1, 0, 0x80808080, 6), 1);
            Check.same("12: as much as they differ", studio.flood(0, 1, 0, 0x80808080, 7), 3);
        }
        TileStudio far = Make.studio(2, 1);
        Make.putRow(far, 0, 0, 0, -1);
        Check.same("12: 254", far.flood(0, 0, 0, 0, 254), 1);
        Check.same("12: 255", far.flood(0, 0, 0, 0, 255), 2);
        TileStudio near = Make.studio(2, 1);
        Make.putRow(near, 0, 0, 0, 1);
        Check.same("12: 0", near.flood(0, 0, 0, 0, 0), 1);
        Check.same("12: 1", near.flood(0, 1, 0, 0, 1), 2);
        for (int wrong : new int[] {-1, 256}) {
            Check.refusesNumber("12: tolerance " + wrong, () -> near.flood(0, 0, 0, RED, wrong));
        }
        Make.checkRow("12: refused", near, 0, 0, 0, 0);
    }

    // 12: "no such layer or place"
    private static void floodNoPlace() {
        TileStudio studio = Make.studio(3, 2);
        Check.same("12: the last place", studio.flood(0, 2, 1, 0, 0), 6);
        int[][] places = {{-1, 0}, {3, 0}, {0, -1}, {0, 2}, {3, 2}};
        for (int[] place : places) {
            String at = place[0] + ", " + place[1];
            Check.refusesNumber("12: no place " + at, () -> studio.flood(0, place[0], place[1], RED, 0));
        }
        checkPainted("12: refused", studio, "...", "...");
        Check.same("12: refused, no step", studio.count(1), 1);
    }

    // 13: "The layer's dots where selected are copied, with their places (no step): how many."
    private static void copyOfNoneAndAll() {
        TileStudio studio = Make.studio(24, 24);
        studio.fill(0, RED);
        Check.same("13: all", studio.copy(0), 576);
        studio.select(0, 0, 0, 0);
        studio.undo();
        Check.same("13: all once more", studio.copy(0), 576);
        Check.same("13: no step", studio.count(1), 1);
        Check.same("13: what can be done again stays", studio.count(2), 1);
        studio.redo();
        Check.same("13: none", studio.copy(0), 0);
        Make.selectAll(studio);
        Check.same("13: none is what was copied last", studio.paste(0, 0, 0), 0);
        Make.selectOne(studio, 23, 23);
        Check.same("13: one", studio.copy(0), 1);
        Make.selectAll(studio);
        studio.fill(0, 0);
        Check.same("13: with its place", studio.paste(0, 0, 0), 1);
        Check.sameDot("13: with its place", studio.dot(0, 0, 23, 23), RED);
    }

    // 14: "NoSuchElementException: nothing was copied yet (a copy of no dots is one)."
    private static void pasteOfNoDots() {
        TileStudio studio = Make.studio(2, 1);
        Check.refuses("14: nothing was copied yet", NoSuchElementException.class, () -> studio.paste(0, 0, 0));
        Check.same("14: refused, no step", studio.count(1), 0);
        studio.select(0, 0, 0, 0);
        studio.copy(0);
        Make.selectAll(studio);
        Check.same("14: a copy of no dots", studio.paste(0, 0, 0), 0);
        Check.same("14: a step", studio.count(1), 3);
        studio.copy(0);
        studio.select(0, 0, 0, 0);
        Check.same("14: nowhere selected", studio.paste(0, 0, 0), 0);
        Check.same("14: a step, too", studio.count(1), 5);
    }

    // 14: "moved by dx and dy, where it comes to selected places: how many dots"
    private static void pasteOverTheEdges() {
        TileStudio studio = Make.studio(24, 24);
        studio.fill(0, RED);
        studio.copy(0);
        int[][] moveDue = {{0, 0, 576}, {23, 23, 1}, {-23, -23, 1}, {24, 0, 0}, {0, -24, 0}, {1, 0, 552}, {0, -1, 552}};
        for (int[] one : moveDue) {
            studio.fill(0, 0);
            Check.same("14: by " + one[0] + ", " + one[1], studio.paste(0, one[0], one[1]), one[2]);
            Check.same("14: so many dots are there", studio.histogram(0, 0, 255), one[2]);
        }
        studio.fill(0, 0);
        studio.paste(0, 23, -23);
        Check.sameDot("14: in the corner", studio.dot(0, 0, 23, 0), RED);
        studio.make(1, 1);
        Check.same("14: into the least picture", studio.paste(0, -23, -23), 1);
        Check.same("14: beyond what was copied", studio.paste(0, -24, 0), 0);
        TileStudio small = Make.studio(2, 1);
        Make.putRow(small, 0, 0, 0xFFFFFF00, 0);
        small.copy(0);
        small.fill(0, RED);
        Check.same("14: clear dots are dots", small.paste(0, 0, 0), 2);
        Make.checkRow("14: they take the place", small, 0, 0, 0xFFFFFF00, 0);
    }

    // 14: "dx or dy is not -100 .. 100"
    private static void pasteLimits() {
        TileStudio studio = Make.studio(2, 1);
        studio.copy(0);
        for (int far : new int[] {-100, 100}) {
            Check.same("14: dx " + far, studio.paste(0, far, 0), 0);
            Check.same("14: dy " + far, studio.paste(0, 0, far), 0);
        }
        for (int far : new int[] {-101, 101}) {
            Check.refusesNumber("14: dx " + far, () -> studio.paste(0, far, 0));
            Check.refusesNumber("14: dy " + far, () -> studio.paste(0, 0, far));
        }
        Check.same("14: four steps", studio.count(1), 4);
    }

    // 15: "with x (axis 0) as width - 1 - x, or y (1) likewise", where the middle is its own opposite.
    private static void mirrorMiddle() {
        TileStudio row = Make.studio(3, 1);
        Make.putRow(row, 0, 0, 1, 2, 3);
        row.mirror(0, 1);
        Make.checkRow("15: one row up and down", row, 0, 0, 1, 2, 3);
        row.mirror(0, 0);
        Make.checkRow("15: the middle stays", row, 0, 0, 3, 2, 1);
        TileStudio wide = Make.studio(24, 24);
        Make.put(wide, 0, 0, 1, 5);
        wide.mirror(0, 0);
        Check.same("15: from one edge to the other", wide.dot(0, 0, 23, 1), 5);
        Check.same("15: and not there any more", wide.dot(0, 0, 0, 1), 0);
        wide.mirror(0, 1);
        Check.same("15: from above to below", wide.dot(0, 0, 23, 22), 5);
        TileStudio part = Make.studio(3, 1);
        Make.putRow(part, 0, 0, 1, 2, 3);
        Make.selectOne(part, 2, 0);
        part.mirror(0, 0);
        Make.checkRow("15: the opposite one is not selected", part, 0, 0, 1, 2, 1);
        for (int wrong : new int[] {-1, 2}) {
            Check.refusesNumber("15: axis " + wrong, () -> part.mirror(0, wrong));
        }
        Make.checkRow("15: refused", part, 0, 0, 1, 2, 1);
    }

    // 16: "0 where there is none", "dx or dy is not -100 .. 100"
    private static void shiftEdges() {
        int[][] moveDue = {
            {0, 0, 576}, {23, 0, 24}, {-23, 0, 24}, {0, 23, 24}, {0, -23, 24}, {24, 0, 0}, {-24, 0, 0}, {0, 24, 0},
            {0, -24, 0}, {100, 0, 0}, {-100, 0, 0}, {0, 100, 0}, {0, -100, 0}, {23, 23, 1}, {-1, -1, 529}};
        for (int[] one : moveDue) {
            TileStudio studio = Make.studio(24, 24);
            studio.fill(0, RED);
            studio.shift(0, one[0], one[1]);
            String by = one[0] + ", " + one[1];
            Check.same("16: dots left after " + by, studio.histogram(0, 0, 255), one[2]);
            Check.same("16: dots 0 after " + by, studio.histogram(0, 3, 0), 576 - one[2]);
        }
        int[][] corners = {{23, 23}, {23, -23}, {-23, 23}, {-23, -23}};
        for (int[] by : corners) {
            TileStudio corner = Make.studio(24, 24);
            corner.fill(0, RED);
            corner.shift(0, by[0], by[1]);
            int x = by[0] > 0 ? 23 : 0;
            int y = by[1] > 0 ? 23 : 0;
            Check.sameDot("16: into the corner " + x + ", " + y, corner.dot(0, 0, x, y), RED);
        }
        TileStudio part = Make.studio(3, 1);
        Make.putRow(part, 0, 0, 1, 2, 3);
        Make.selectOne(part, 0, 0);
        part.shift(0, 1, 0);
        Make.checkRow("16: 0 where selected alone", part, 0, 0, 0, 2, 3);
        for (int far : new int[] {-101, 101}) {
            Check.refusesNumber("16: dx " + far, () -> part.shift(0, far, 0));
            Check.refusesNumber("16: dy " + far, () -> part.shift(0, 0, far));
        }
        Make.checkRow("16: refused", part, 0, 0, 0, 2, 3);
    }

    // 17: "at places at most radius away in x and in y, 0 beyond the edge", "radius is not 1 .. 4"
    private static void blurEdges() {
        for (int radius = 1; radius <= 4; radius++) {
            int side = 2 * radius + 1;
            TileStudio studio = Make.studio(side, side);
            studio.fill(0, -1);
            studio.blur(0, radius);
            Check.sameDot("17: nothing beyond the edge, radius " + radius, studio.dot(0, 0, radius, radius), -1);
            int corner = (255 * (radius + 1) * (radius + 1) + side * side / 2) / (side * side);
            int upperLeft = studio.dot(0, 0, 0, 0);
            Check.sameDot("17: a corner, radius " + radius, upperLeft, corner * 0x01010101);
            Check.sameDot("17: the opposite one", studio.dot(0, 0, side - 1, side - 1), upperLeft);
            TileStudio one = Make.studio(1, 1);
            one.fill(0, 0xFF000000);
            one.blur(0, radius);
            int alone = (255 + side * side / 2) / (side * side);
            Check.sameDot("17: all but one is beyond the edge", one.dot(0, 0, 0, 0), alone << 24);
        }
        TileStudio studio = Make.studio(2, 1);
        studio.fill(0, 90);
        for (int wrong : new int[] {-1, 0, 5}) {
            Check.refusesNumber("17: radius " + wrong, () -> studio.blur(0, wrong));
        }
        Make.checkRow("17: refused", studio, 0, 0, 90, 90);
    }

    // 17: "+ n / 2) / n": n is odd, so that (n - 1) / 2 is added: 4 of 9 go down and 5 of 9 up.
    private static void blurRounds() {
        int[][] radiusDotDue = {
            {1, 4, 0}, {1, 5, 1}, {1, 13, 1}, {1, 14, 2}, {2, 12, 0}, {2, 13, 1}, {3, 24, 0}, {3, 25, 1}, {4, 40, 0},
            {4, 41, 1}};
        for (int[] one : radiusDotDue) {
            TileStudio studio = Make.studio(1, 1);
            studio.fill(0, one[1] * 0x01010101);
            studio.blur(0, one[0]);
            String what = "17: " + one[1] + ", radius " + one[0];
            Check.sameDot(what, studio.dot(0, 0, 0, 0), one[2] * 0x01010101);
        }
    }
}
