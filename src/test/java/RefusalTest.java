import java.util.ArrayList;
import java.util.List;
import java.util.NoSuchElementException;
import java.util.function.Consumer;
import java.util.function.Supplier;

/**
 * "What throws changes nothing. A refusal is the first that holds as they are named. IllegalArgumentException stands
 * for: no picture, no such layer, or a number that is not as said." Every refusal that the document names, in every
 * state that matters, and what is there after it.
 */
public final class RefusalTest {
    private static final Class<? extends RuntimeException> NUMBER = IllegalArgumentException.class;
    private static final Class<? extends RuntimeException> STATE = IllegalStateException.class;
    private static final Class<? extends RuntimeException> NONE = NoSuchElementException.class;
    private static final Class<? extends RuntimeException> PLACE = IndexOutOfBoundsException.class;

    private static final int LEAST = Integer.MIN_VALUE;
    private static final int GREATEST = Integer.MAX_VALUE;

    /** A call that is due to throw. */
    private record Refused(String name, Class<? extends RuntimeException> due, Consumer<TileStudio> call) {
    }

    public static void main(String[] args) {
        checkAll("without a picture", TileStudio::new, withoutPicture());
        checkAll("without a picture, with a brush", RefusalTest::brushAlone, withoutPicture());
        checkAll("one layer", RefusalTest::oneLayer, wrongLayers(1));
        checkAll("one layer", RefusalTest::oneLayer, wrongNumbers());
        checkAll("one layer", RefusalTest::oneLayer, wrongPlaces());
        checkAll("one layer", RefusalTest::oneLayer, onlyLayer());
        checkAll("two layers", RefusalTest::twoLayers, wrongLayers(2));
        checkAll("two layers", RefusalTest::twoLayers, wrongNumbers());
        checkAll("three layers", RefusalTest::threeLayers, wrongLayers(3));
        checkAll("three layers", RefusalTest::threeLayers, noFourthLayer());
        checkAll("nothing copied, no file", RefusalTest::nothingKept, nothingKeptRefusals());
        Check.finish();
    }

    private static void checkAll(String state, Supplier<TileStudio> made, List<Refused> calls) {
        String due = Look.throughAll(made.get());
        String dueSelection = Look.selection(made.get());
        for (Refused refused : calls) {
            TileStudio studio = made.get();
            String name = state + ": " + refused.name;
            Check.refuses(name, refused.due, () -> refused.call.accept(studio));
            Check.sameText(name + " changes nothing, and so what is there", Look.throughAll(studio), due);
            TileStudio twin = made.get();
            Check.refuses(name, refused.due, () -> refused.call.accept(twin));
            Check.sameText(name + " leaves the selection, which", Look.selection(twin), dueSelection);
        }
    }

    private static TileStudio brushAlone() {
        TileStudio studio = new TileStudio();
        studio.brush(0x11223344, 3);
        return studio;
    }

    /** One layer, 2 by 1; steps back and again, a file, a copy and a brush, no two of them alike. */
    private static TileStudio oneLayer() {
        TileStudio studio = Make.studio(2, 1);
        studio.fill(0, 0x010203FF);
        studio.save(-1);
        studio.select(0, 1, 0, Make.size(1, 1));
        studio.fill(0, 0x040506FF);
        studio.copy(0);
        studio.brush(0x070809FF, 2);
        studio.mode(0, 5, 100, true);
        studio.fill(0, 0x0A0B0CFF);
        studio.fill(0, 0x0D0E0FFF);
        studio.undo();
        studio.undo();
        return studio;
    }

    private static TileStudio twoLayers() {
        TileStudio studio = oneLayer();
        studio.layer(1);
        studio.fill(1, 0x10203040);
        studio.undo();
        return studio;
    }

    private static TileStudio threeLayers() {
        TileStudio studio = oneLayer();
        studio.layer(1);
        studio.fill(1, 0x10203040);
        studio.layer(0);
        studio.fill(0, 0x50607080);
        studio.undo();
        return studio;
    }

    private static TileStudio nothingKept() {
        TileStudio studio = Make.studio(2, 1);
        studio.fill(0, 0x010203FF);
        studio.select(0, 1, 0, Make.size(1, 1));
        studio.fill(0, 0x040506FF);
        studio.undo();
        return studio;
    }

    private static List<Refused> withoutPicture() {
        List<Refused> calls = new ArrayList<>();
        add(calls, "2: make(0, 1)", s -> s.make(0, 1));
        add(calls, "2: make(1, 25)", s -> s.make(1, 25));
        add(calls, "3: layer(0)", s -> s.layer(0));
        add(calls, "3: layer(1)", s -> s.layer(1));
        add(calls, "4: drop(0)", s -> s.drop(0));
        add(calls, "5: move(0, 0)", s -> s.move(0, 0));
        add(calls, "6: mode(0, 0, 255, true)", s -> s.mode(0, 0, 255, true));
        add(calls, "7: select(0, 0, 0, 0)", s -> s.select(0, 0, 0, 0));
        add(calls, "8: brush(5, 8)", s -> s.brush(5, 8));
        add(calls, "8: brush(5, -1)", s -> s.brush(5, -1));
        add(calls, "9: fill(0, 1)", s -> s.fill(0, 1));
        add(calls, "10: gradient(0, 1, 2, 0)", s -> s.gradient(0, 1, 2, 0));
        add(calls, "11: stroke(0, 0, 0)", s -> s.stroke(0, 0, 0));
        add(calls, "12: flood(0, 0, 0, 1, 0)", s -> s.flood(0, 0, 0, 1, 0));
        add(calls, "13: copy(0)", s -> s.copy(0));
        add(calls, "14: paste(0, 0, 0), though nothing was copied", s -> s.paste(0, 0, 0));
        add(calls, "15: mirror(0, 0)", s -> s.mirror(0, 0));
        add(calls, "16: shift(0, 0, 0)", s -> s.shift(0, 0, 0));
        add(calls, "17: blur(0, 1)", s -> s.blur(0, 1));
        add(calls, "20: save(-1)", s -> s.save(-1));
        add(calls, "20: save(0)", s -> s.save(0));
        add(calls, "22: dot(0, 0, 0, 0)", s -> s.dot(0, 0, 0, 0));
        add(calls, "22: dot(0, 0, -1, 0), though there is no place", s -> s.dot(0, 0, -1, 0));
        add(calls, "23: view(0, 0, 0)", s -> s.view(0, 0, 0));
        add(calls, "23: view(0, -1, 0), though there is no place", s -> s.view(0, -1, 0));
        add(calls, "24: histogram(0, 0, 0)", s -> s.histogram(0, 0, 0));
        calls.add(new Refused("21: open()", NONE, TileStudio::open));
        return calls;
    }

    /** Every call that takes a layer, with those that are not there; all else is as it should be. */
    private static List<Refused> wrongLayers(int layers) {
        List<Refused> calls = new ArrayList<>();
        for (int layer : new int[] {-1, layers, layers + 1, 3, LEAST, GREATEST}) {
            String of = " of layer " + layer;
            add(calls, "4: drop" + of, s -> s.drop(layer));
            add(calls, "5: move" + of, s -> s.move(layer, 0));
            add(calls, "5: move to" + of, s -> s.move(0, layer));
            add(calls, "6: mode" + of, s -> s.mode(layer, 0, 255, true));
            add(calls, "9: fill" + of, s -> s.fill(layer, 1));
            add(calls, "10: gradient" + of, s -> s.gradient(layer, 1, 2, 0));
            add(calls, "11: stroke" + of, s -> s.stroke(layer, 0, 0));
            add(calls, "12: flood" + of, s -> s.flood(layer, 0, 0, 1, 0));
            add(calls, "13: copy" + of, s -> s.copy(layer));
            add(calls, "14: paste" + of, s -> s.paste(layer, 0, 0));
            add(calls, "15: mirror" + of, s -> s.mirror(layer, 0));
            add(calls, "16: shift" + of, s -> s.shift(layer, 0, 0));
            add(calls, "17: blur" + of, s -> s.blur(layer, 1));
            add(calls, "22: dot" + of, s -> s.dot(layer, 0, 0, 0));
            add(calls, "22: dot" + of + " before no such place", s -> s.dot(layer, 0, -1, 0));
            add(calls, "24: histogram" + of, s -> s.histogram(layer, 0, 0));
        }
        add(calls, "3: layer(-1)", s -> s.layer(-1));
        add(calls, "3: layer at one more than there are", s -> s.layer(layers + 1));
        add(calls, "3: layer at the least", s -> s.layer(LEAST));
        add(calls, "3: layer at the greatest", s -> s.layer(GREATEST));
        return calls;
    }

    private static List<Refused> wrongNumbers() {
        List<Refused> calls = new ArrayList<>();
        for (int side : new int[] {0, 25, -1, LEAST, GREATEST}) {
            add(calls, "2: width " + side, s -> s.make(side, 1));
            add(calls, "2: height " + side, s -> s.make(1, side));
        }
        for (int mode : new int[] {-1, 6, LEAST, GREATEST}) {
            add(calls, "6: mode " + mode, s -> s.mode(0, mode, 255, true));
        }
        for (int opacity : new int[] {-1, 256, LEAST, GREATEST}) {
            add(calls, "6: opacity " + opacity, s -> s.mode(0, 0, opacity, true));
        }
        for (int radius : new int[] {-1, 8, LEAST, GREATEST}) {
            add(calls, "8: radius " + radius, s -> s.brush(1, radius));
        }
        for (int axis : new int[] {-1, 2, LEAST, GREATEST}) {
            add(calls, "10: axis " + axis, s -> s.gradient(0, 1, 2, axis));
            add(calls, "15: axis " + axis, s -> s.mirror(0, axis));
        }
        for (int tolerance : new int[] {-1, 256, LEAST, GREATEST}) {
            add(calls, "12: tolerance " + tolerance, s -> s.flood(0, 1, 0, 1, tolerance));
        }
        for (int radius : new int[] {0, 5, -1, LEAST, GREATEST}) {
            add(calls, "17: radius " + radius, s -> s.blur(0, radius));
        }
        for (int level : new int[] {-1, 4, LEAST, GREATEST}) {
            add(calls, "22: level " + level, s -> s.dot(0, level, 0, 0));
            add(calls, "22: level " + level + " before no such place", s -> s.dot(0, level, 99, 99));
            add(calls, "23: level " + level, s -> s.view(level, 0, 0));
            add(calls, "23: level " + level + " before no such place", s -> s.view(level, 99, 99));
        }
        for (int channel : new int[] {-1, 4, LEAST, GREATEST}) {
            add(calls, "24: channel " + channel, s -> s.histogram(0, channel, 0));
        }
        addWrongMoves(calls);
        addWrongSelections(calls);
        return calls;
    }

    private static void addWrongMoves(List<Refused> calls) {
        for (int far : new int[] {-101, 101, LEAST, GREATEST}) {
            add(calls, "14: dx " + far, s -> s.paste(0, far, 0));
            add(calls, "14: dy " + far, s -> s.paste(0, 0, far));
            add(calls, "16: dx " + far, s -> s.shift(0, far, 0));
            add(calls, "16: dy " + far, s -> s.shift(0, 0, far));
        }
        for (int far : new int[] {-101, 101, Short.MIN_VALUE, Short.MAX_VALUE}) {
            add(calls, "11: x0 " + far, s -> s.stroke(0, Make.at(far, 0), Make.at(0, 0)));
            add(calls, "11: y0 " + far, s -> s.stroke(0, Make.at(0, far), Make.at(0, 0)));
            add(calls, "11: x1 " + far, s -> s.stroke(0, Make.at(0, 0), Make.at(far, 0)));
            add(calls, "11: y1 " + far, s -> s.stroke(0, Make.at(0, 0), Make.at(0, far)));
        }
    }

    private static void addWrongSelections(List<Refused> calls) {
        int one = Make.size(1, 1);
        for (int kind : new int[] {-1, 4, 5, 9, 14, 19, 20, 21, 100, -10, -7, LEAST, GREATEST}) {
            add(calls, "7: kind " + kind, s -> s.select(kind, 0, 0, one));
        }
        for (int kind : new int[] {0, 1, 2, 3, 10, 11, 12, 13}) {
            for (int far : new int[] {-1001, 1001, LEAST, GREATEST}) {
                add(calls, "7: x " + far + ", kind " + kind, s -> s.select(kind, far, 0, one));
                add(calls, "7: y " + far + ", kind " + kind, s -> s.select(kind, 0, far, one));
            }
            for (int great : new int[] {1001, 0x7FFF, 0x8000, 0xFFFF}) {
                add(calls, "7: w " + great + ", kind " + kind, s -> s.select(kind, 0, 0, Make.size(great, 1)));
                add(calls, "7: h " + great + ", kind " + kind, s -> s.select(kind, 0, 0, Make.size(1, great)));
            }
        }
    }

    /** The picture is 2 by 1 and so has the sides 1 and 1 at the levels 1 to 3. */
    private static List<Refused> wrongPlaces() {
        List<Refused> calls = new ArrayList<>();
        for (int x : new int[] {-1, 2, LEAST, GREATEST}) {
            add(calls, "12: x " + x, s -> s.flood(0, x, 0, 1, 0));
            calls.add(new Refused("22: x " + x, PLACE, s -> s.dot(0, 0, x, 0)));
            calls.add(new Refused("23: x " + x, PLACE, s -> s.view(0, x, 0)));
        }
        for (int y : new int[] {-1, 1, LEAST, GREATEST}) {
            add(calls, "12: y " + y, s -> s.flood(0, 0, y, 1, 0));
            calls.add(new Refused("22: y " + y, PLACE, s -> s.dot(0, 0, 0, y)));
            calls.add(new Refused("23: y " + y, PLACE, s -> s.view(0, 0, y)));
        }
        for (int level = 1; level <= 3; level++) {
            int at = level;
            calls.add(new Refused("22: x 1 at level " + at, PLACE, s -> s.dot(0, at, 1, 0)));
            calls.add(new Refused("22: y 1 at level " + at, PLACE, s -> s.dot(0, at, 0, 1)));
            calls.add(new Refused("23: x 1 at level " + at, PLACE, s -> s.view(at, 1, 0)));
            calls.add(new Refused("23: y 1 at level " + at, PLACE, s -> s.view(at, 0, 1)));
        }
        return calls;
    }

    private static List<Refused> onlyLayer() {
        List<Refused> calls = new ArrayList<>();
        calls.add(new Refused("4: drop of the only one", STATE, s -> s.drop(0)));
        add(calls, "4: no such layer before the only one", s -> s.drop(1));
        return calls;
    }

    private static List<Refused> noFourthLayer() {
        List<Refused> calls = new ArrayList<>();
        for (int position = 0; position <= 3; position++) {
            int at = position;
            calls.add(new Refused("3: a fourth at " + at, STATE, s -> s.layer(at)));
        }
        add(calls, "3: a position not as said before three layers", s -> s.layer(4));
        add(calls, "3: a position below 0 before three layers", s -> s.layer(-1));
        return calls;
    }

    private static List<Refused> nothingKeptRefusals() {
        List<Refused> calls = new ArrayList<>();
        calls.add(new Refused("21: open()", NONE, TileStudio::open));
        calls.add(new Refused("14: paste", NONE, s -> s.paste(0, 0, 0)));
        calls.add(new Refused("14: paste at the edges", NONE, s -> s.paste(0, -100, 100)));
        add(calls, "14: no such layer before nothing copied", s -> s.paste(1, 0, 0));
        add(calls, "14: dx before nothing copied", s -> s.paste(0, 101, 0));
        add(calls, "14: dy before nothing copied", s -> s.paste(0, 0, -101));
        return calls;
    }

    private static void add(List<Refused> calls, String name, Consumer<TileStudio> call) {
        calls.add(new Refused(name, NUMBER, call));
    }
}
