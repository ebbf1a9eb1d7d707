import java.util.NoSuchElementException;
import java.util.Random;

/** All promises: long runs of calls, each answered by the class and by PlainStudio alike. */
public final class ModelTest {
    private static final int RUNS = 1500;
    private static final int CALLS = 512;

    /** A call of an answer, which a boolean gives as 1 or 0. */
    private interface Answer {
        long ask();
    }

    private final Random random;
    private final String name;
    private final boolean wild;
    private final TileStudio studio = new TileStudio();
    private final PlainStudio plain = new PlainStudio();

    private ModelTest(int seed) {
        random = new Random(seed);
        name = "run " + seed;
        wild = seed % 4 == 0;
    }

    public static void main(String[] args) {
        for (int seed = 0; seed < RUNS; seed++) {
            new ModelTest(seed).run();
        }
        Check.finish();
    }

    private void run() {
        for (int i = 0; i < CALLS; i++) {
            int kind = random.nextInt(100);
            if (i < 3 && !wild) {
                make();
            } else if (kind < 45) {
                change();
            } else {
                look();
            }
        }
    }

    private void compare(String call, Answer got, Answer due) {
        Check.sameText(name + ": " + call, told(got), told(due));
    }

    private static String told(Answer answer) {
        try {
            return Long.toString(answer.ask());
        } catch (IllegalArgumentException | IllegalStateException | IndexOutOfBoundsException
                | NoSuchElementException e) {
            return e.getClass().getSimpleName();
        }
    }

    private static long nothing(Runnable call) {
        call.run();
        return 0;
    }

    private int between(int least, int most) {
        return least + random.nextInt(most - least + 1);
    }

    /** A number of a range, in wild runs often one just or far beyond it. */
    private int near(int least, int most) {
        if (wild && random.nextInt(12) == 0) {
            int[] beyond = {least - 1, most + 1, Integer.MIN_VALUE, Integer.MAX_VALUE, -1, 0};
            return beyond[random.nextInt(beyond.length)];
        }
        return between(least, most);
    }

    private int anyLayer() {
        return near(0, Math.max(0, plain.count(0) - 1));
    }

    private int width() {
        return plain.count(5) / 10000;
    }

    private int height() {
        return plain.count(5) / 100 % 100;
    }

    private int anyDot() {
        int[] some = {0, -1, 0xFF0000FF, 0x00FF0080, 0x0A0A0A01, 0x80808080, 0x12345600};
        return random.nextInt(3) == 0 ? random.nextInt() : some[random.nextInt(some.length)];
    }

    private int anySize() {
        if (wild && random.nextInt(8) == 0) {
            return random.nextInt();
        }
        return random.nextInt(10) == 0 ? Make.size(between(900, 1001), between(900, 1001))
                : Make.size(between(0, 26), between(0, 26));
    }

    private int anyPlace() {
        if (wild && random.nextInt(8) == 0) {
            return random.nextInt();
        }
        return random.nextInt(4) == 0 ? Make.at(near(-100, 100), near(-100, 100))
                : Make.at(between(-8, 31), between(-8, 31));
    }

    private int anyWay() {
        return random.nextInt(6) == 0 ? near(-100, 100) : between(-9, 9);
    }

    private void make() {
        boolean small = random.nextInt(2) == 0;
        int width = small ? near(1, 5) : near(1, 24);
        int height = small ? near(1, 5) : near(1, 24);
        compare("make(" + width + ", " + height + ")", () -> nothing(() -> studio.make(width, height)),
                () -> nothing(() -> plain.make(width, height)));
    }

    private void change() {
        switch (random.nextInt(22)) {
            case 0:
                if (random.nextInt(8) == 0) {
                    make();
                }
                break;
            case 1:
                layer();
                break;
            case 2:
                drop();
                break;
            case 3:
                move();
                break;
            case 4:
            case 5:
                mode();
                break;
            case 6:
            case 7:
            case 8:
                select();
                break;
            case 9:
                brush();
                break;
            case 10:
                fill();
                break;
            case 11:
                gradient();
                break;
            case 12:
                stroke();
                break;
            case 13:
                flood();
                break;
            case 14:
                copy();
                break;
            case 15:
                paste();
                break;
            case 16:
                mirror();
                break;
            case 17:
                shift();
                break;
            case 18:
                blur();
                break;
            case 19:
                compare("undo()", () -> studio.undo() ? 1 : 0, () -> plain.undo() ? 1 : 0);
                break;
            case 20:
                compare("redo()", () -> studio.redo() ? 1 : 0, () -> plain.redo() ? 1 : 0);
                break;
            default:
                file();
                break;
        }
    }

    private void layer() {
        int position = near(0, plain.count(0));
        compare("layer(" + position + ")", () -> nothing(() -> studio.layer(position)),
                () -> nothing(() -> plain.layer(position)));
    }

    private void drop() {
        int layer = anyLayer();
        compare("drop(" + layer + ")", () -> nothing(() -> studio.drop(layer)),
                () -> nothing(() -> plain.drop(layer)));
    }

    private void move() {
        int from = anyLayer();
        int to = anyLayer();
        compare("move(" + from + ", " + to + ")", () -> nothing(() -> studio.move(from, to)),
                () -> nothing(() -> plain.move(from, to)));
    }

    private void mode() {
        int layer = anyLayer();
        int mode = near(0, 5);
        int opacity = random.nextInt(2) == 0 ? 255 : near(0, 255);
        boolean visible = random.nextInt(5) != 0;
        compare("mode(" + layer + ", " + mode + ", " + opacity + ", " + visible + ")",
                () -> nothing(() -> studio.mode(layer, mode, opacity, visible)),
                () -> nothing(() -> plain.mode(layer, mode, opacity, visible)));
    }

    private void select() {
        int kind = 10 * random.nextInt(2) + near(0, 3);
        boolean all = random.nextInt(4) == 0;
        int x = all ? 0 : random.nextInt(10) == 0 ? near(-1000, 1000) : between(-6, 24);
        int y = all ? 0 : random.nextInt(10) == 0 ? near(-1000, 1000) : between(-6, 24);
        int size = all ? Make.size(24, 24) : anySize();
        compare("select(" + kind + ", " + x + ", " + y + ", " + size + ")",
                () -> studio.select(kind, x, y, size), () -> plain.select(kind, x, y, size));
    }

    private void brush() {
        int dot = anyDot();
        int radius = near(0, 7);
        compare("brush(" + dot + ", " + radius + ")", () -> nothing(() -> studio.brush(dot, radius)),
                () -> nothing(() -> plain.brush(dot, radius)));
    }

    private void fill() {
        int layer = anyLayer();
        int dot = anyDot();
        compare("fill(" + layer + ", " + dot + ")", () -> nothing(() -> studio.fill(layer, dot)),
                () -> nothing(() -> plain.fill(layer, dot)));
    }

    private void gradient() {
        int layer = anyLayer();
        int first = anyDot();
        int last = anyDot();
        int axis = near(0, 1);
        compare("gradient(" + layer + ", " + first + ", " + last + ", " + axis + ")",
                () -> nothing(() -> studio.gradient(layer, first, last, axis)),
                () -> nothing(() -> plain.gradient(layer, first, last, axis)));
    }

    private void stroke() {
        int layer = anyLayer();
        int from = anyPlace();
        int to = anyPlace();
        compare("stroke(" + layer + ", " + from + ", " + to + ")",
                () -> nothing(() -> studio.stroke(layer, from, to)),
                () -> nothing(() -> plain.stroke(layer, from, to)));
    }

    private void flood() {
        int layer = anyLayer();
        int x = near(0, Math.max(0, width() - 1));
        int y = near(0, Math.max(0, height() - 1));
        int dot = anyDot();
        int tolerance = random.nextInt(2) == 0 ? near(0, 40) : near(0, 255);
        compare("flood(" + layer + ", " + x + ", " + y + ", " + dot + ", " + tolerance + ")",
                () -> studio.flood(layer, x, y, dot, tolerance), () -> plain.flood(layer, x, y, dot, tolerance));
    }

    private void copy() {
        int layer = anyLayer();
        compare("copy(" + layer + ")", () -> studio.copy(layer), () -> plain.copy(layer));
    }

    private void paste() {
        int layer = anyLayer();
        int dx = anyWay();
        int dy = anyWay();
        compare("paste(" + layer + ", " + dx + ", " + dy + ")", () -> studio.paste(layer, dx, dy),
                () -> plain.paste(layer, dx, dy));
    }

    private void mirror() {
        int layer = anyLayer();
        int axis = near(0, 1);
        compare("mirror(" + layer + ", " + axis + ")", () -> nothing(() -> studio.mirror(layer, axis)),
                () -> nothing(() -> plain.mirror(layer, axis)));
    }

    private void shift() {
        int layer = anyLayer();
        int dx = anyWay();
        int dy = anyWay();
        compare("shift(" + layer + ", " + dx + ", " + dy + ")", () -> nothing(() -> studio.shift(layer, dx, dy)),
                () -> nothing(() -> plain.shift(layer, dx, dy)));
    }

    private void blur() {
        int layer = anyLayer();
        int radius = near(1, 4);
        compare("blur(" + layer + ", " + radius + ")", () -> nothing(() -> studio.blur(layer, radius)),
                () -> nothing(() -> plain.blur(layer, radius)));
    }

    private void file() {
        if (random.nextInt(3) == 0) {
            compare("open()", () -> nothing(studio::open), () -> nothing(plain::open));
            return;
        }
        int most = random.nextInt(3) == 0 ? -1 : near(0, 12);
        compare("save(" + most + ")", () -> studio.save(most), () -> plain.save(most));
    }

    private void look() {
        int layer = anyLayer();
        int level = random.nextInt(2) == 0 ? 0 : near(0, 3);
        int scale = 1 << (level >= 0 && level <= 3 ? level : 0);
        int x = near(0, Math.max(0, (width() + scale - 1) / scale - 1));
        int y = near(0, Math.max(0, (height() + scale - 1) / scale - 1));
        switch (random.nextInt(6)) {
            case 0:
                histogram();
                break;
            case 1:
                int what = near(0, 5);
                compare("count(" + what + ")", () -> studio.count(what), () -> plain.count(what));
                break;
            case 2:
            case 3:
                compare("dot(" + layer + ", " + level + ", " + x + ", " + y + ")",
                        () -> studio.dot(layer, level, x, y), () -> plain.dot(layer, level, x, y));
                break;
            default:
                compare("view(" + level + ", " + x + ", " + y + ")", () -> studio.view(level, x, y),
                        () -> plain.view(level, x, y));
                break;
        }
    }

    private void histogram() {
        int layer = anyLayer();
        int channel = near(0, 3);
        int[] values = {0, 255, 128, 10, near(0, 255)};
        int value = values[random.nextInt(values.length)];
        compare("histogram(" + layer + ", " + channel + ", " + value + ")",
                () -> studio.histogram(layer, channel, value), () -> plain.histogram(layer, channel, value));
    }
}
