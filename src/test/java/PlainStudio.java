import java.util.ArrayDeque;
import java.util.ArrayList;
import java.util.HashSet;
import java.util.List;
import java.util.NoSuchElementException;
import java.util.Set;

/**
 * The document once more, written for plainness alone and in another manner than the class: bytes
 * instead of numbers, whole levels, sets of places, and a whole copy of all for each step.
 */
final class PlainStudio {
    private static final class Layer {
        int[][][] bytes;
        int mode = 0;
        int opacity = 255;
        boolean visible = true;

        Layer(int width, int height) {
            bytes = new int[width][height][4];
        }

        Layer twin() {
            Layer twin = new Layer(bytes.length, bytes[0].length);
            twin.bytes = twinOf(bytes);
            twin.mode = mode;
            twin.opacity = opacity;
            twin.visible = visible;
            return twin;
        }
    }

    private static final class Picture {
        int width;
        int height;
        List<Layer> layers = new ArrayList<>();
        Set<List<Integer>> selected = new HashSet<>();

        Picture twin() {
            Picture twin = new Picture();
            twin.width = width;
            twin.height = height;
            for (Layer layer : layers) {
                twin.layers.add(layer.twin());
            }
            twin.selected.addAll(selected);
            return twin;
        }
    }

    private Picture now = null;
    private Picture file = null;
    private final List<Picture> back = new ArrayList<>();
    private final List<Picture> again = new ArrayList<>();
    private int[] brush = new int[4];
    private int radius = 0;
    private int[][][] copiedBytes = null;
    private Set<List<Integer>> copiedPlaces = null;

    private static int[][][] twinOf(int[][][] bytes) {
        int[][][] twin = new int[bytes.length][bytes[0].length][];
        for (int x = 0; x < bytes.length; x++) {
            for (int y = 0; y < bytes[0].length; y++) {
                twin[x][y] = bytes[x][y].clone();
            }
        }
        return twin;
    }

    private static int[] bytesOf(int dot) {
        return new int[] {dot >> 24 & 255, dot >> 16 & 255, dot >> 8 & 255, dot & 255};
    }

    private static int dotOf(int[] bytes) {
        return bytes[0] << 24 | bytes[1] << 16 | bytes[2] << 8 | bytes[3];
    }

    private static void refuseUnless(boolean asSaid) {
        if (!asSaid) {
            throw new IllegalArgumentException();
        }
    }

    private void needPicture() {
        refuseUnless(now != null);
    }

    private void needLayer(int layer) {
        needPicture();
        refuseUnless(layer >= 0 && layer < now.layers.size());
    }

    private void step() {
        back.add(now.twin());
        if (back.size() > 6) {
            back.remove(0);
        }
        again.clear();
    }

    void make(int width, int height) {
        refuseUnless(width >= 1 && width <= 24 && height >= 1 && height <= 24);
        now = new Picture();
        now.width = width;
        now.height = height;
        now.layers.add(new Layer(width, height));
        for (int x = 0; x < width; x++) {
            for (int y = 0; y < height; y++) {
                now.selected.add(List.of(x, y));
            }
        }
        back.clear();
        again.clear();
    }

    void layer(int position) {
        needPicture();
        refuseUnless(position >= 0 && position <= now.layers.size());
        if (now.layers.size() == 3) {
            throw new IllegalStateException();
        }
        step();
        now.layers.add(position, new Layer(now.width, now.height));
    }

    void drop(int layer) {
        needLayer(layer);
        if (now.layers.size() == 1) {
            throw new IllegalStateException();
        }
        step();
        now.layers.remove(layer);
    }

    void move(int from, int to) {
        needLayer(from);
        needLayer(to);
        step();
        now.layers.add(to, now.layers.remove(from));
    }

    void mode(int layer, int mode, int opacity, boolean visible) {
        needLayer(layer);
        refuseUnless(mode >= 0 && mode <= 5 && opacity >= 0 && opacity <= 255);
        step();
        now.layers.get(layer).mode = mode;
        now.layers.get(layer).opacity = opacity;
        now.layers.get(layer).visible = visible;
    }

    int select(int kind, int x, int y, int size) {
        needPicture();
        refuseUnless(List.of(0, 1, 2, 3, 10, 11, 12, 13).contains(kind));
        refuseUnless(x >= -1000 && x <= 1000 && y >= -1000 && y <= 1000);
        long w = size & 0xFFFF;
        long h = size >> 16 & 0xFFFF;
        refuseUnless(w <= 1000 && h <= 1000);
        step();
        Set<List<Integer>> shape = new HashSet<>();
        for (int px = x; px < x + w; px++) {
            for (int py = y; py < y + h; py++) {
                boolean inPicture = px >= 0 && px < now.width && py >= 0 && py < now.height;
                long u = 2L * (px - x) + 1 - w;
                long v = 2L * (py - y) + 1 - h;
                if (inPicture && (kind < 10 || u * u * h * h + v * v * w * w <= w * w * h * h)) {
                    shape.add(List.of(px, py));
                }
            }
        }
        if (kind % 10 == 0) {
            now.selected = shape;
        } else if (kind % 10 == 1) {
            now.selected.addAll(shape);
        } else if (kind % 10 == 2) {
            now.selected.removeAll(shape);
        } else {
            now.selected.retainAll(shape);
        }
        return now.selected.size();
    }

    void brush(int dot, int radius) {
        refuseUnless(radius >= 0 && radius <= 7);
        this.brush = bytesOf(dot);
        this.radius = radius;
    }

    void fill(int layer, int dot) {
        needLayer(layer);
        step();
        for (List<Integer> place : now.selected) {
            now.layers.get(layer).bytes[place.get(0)][place.get(1)] = bytesOf(dot);
        }
    }

    void gradient(int layer, int first, int last, int axis) {
        needLayer(layer);
        refuseUnless(axis == 0 || axis == 1);
        step();
        int n = axis == 0 ? now.width - 1 : now.height - 1;
        for (List<Integer> place : now.selected) {
            int k = place.get(axis);
            int[] bytes = bytesOf(first);
            for (int c = 0; c < 4 && n > 0; c++) {
                bytes[c] = (bytesOf(first)[c] * (n - k) + bytesOf(last)[c] * k + n / 2) / n;
            }
            now.layers.get(layer).bytes[place.get(0)][place.get(1)] = bytes;
        }
    }

    void stroke(int layer, int from, int to) {
        needLayer(layer);
        int[] ends = {(short) (from & 0xFFFF), from >> 16, (short) (to & 0xFFFF), to >> 16};
        for (int end : ends) {
            refuseUnless(end >= -100 && end <= 100);
        }
        step();
        int wx = ends[2] - ends[0];
        int wy = ends[3] - ends[1];
        int n = Math.max(Math.abs(wx), Math.abs(wy));
        for (List<Integer> place : now.selected) {
            boolean near = false;
            for (int k = 0; k <= n; k++) {
                double px = n == 0 ? ends[0] : ends[0] + Math.floor((2.0 * k * wx + n) / (2.0 * n));
                double py = n == 0 ? ends[1] : ends[1] + Math.floor((2.0 * k * wy + n) / (2.0 * n));
                double dx = place.get(0) - px;
                double dy = place.get(1) - py;
                near = near || dx * dx + dy * dy <= radius * radius;
            }
            if (near) {
                int[][] column = now.layers.get(layer).bytes[place.get(0)];
                column[place.get(1)] = blend(brush, column[place.get(1)], 0, 255);
            }
        }
    }

    int flood(int layer, int x, int y, int dot, int tolerance) {
        needLayer(layer);
        refuseUnless(x >= 0 && x < now.width && y >= 0 && y < now.height);
        refuseUnless(tolerance >= 0 && tolerance <= 255);
        step();
        int[][][] bytes = now.layers.get(layer).bytes;
        Set<List<Integer>> reached = new HashSet<>();
        ArrayDeque<List<Integer>> open = new ArrayDeque<>();
        open.add(List.of(x, y));
        while (!open.isEmpty()) {
            List<Integer> place = open.poll();
            if (now.selected.contains(place) && !reached.contains(place)
                    && alike(bytes[place.get(0)][place.get(1)], bytes[x][y], tolerance)) {
                reached.add(place);
                open.add(List.of(place.get(0) - 1, place.get(1)));
                open.add(List.of(place.get(0) + 1, place.get(1)));
                open.add(List.of(place.get(0), place.get(1) - 1));
                open.add(List.of(place.get(0), place.get(1) + 1));
            }
        }
        for (List<Integer> place : reached) {
            bytes[place.get(0)][place.get(1)] = bytesOf(dot);
        }
        return reached.size();
    }

    private static boolean alike(int[] one, int[] other, int tolerance) {
        boolean alike = true;
        for (int c = 0; c < 4; c++) {
            alike = alike && Math.abs(one[c] - other[c]) <= tolerance;
        }
        return alike;
    }

    int copy(int layer) {
        needLayer(layer);
        copiedBytes = twinOf(now.layers.get(layer).bytes);
        copiedPlaces = new HashSet<>(now.selected);
        return copiedPlaces.size();
    }

    private static void needWay(int dx, int dy) {
        refuseUnless(dx >= -100 && dx <= 100 && dy >= -100 && dy <= 100);
    }

    int paste(int layer, int dx, int dy) {
        needLayer(layer);
        needWay(dx, dy);
        if (copiedPlaces == null) {
            throw new NoSuchElementException();
        }
        step();
        int pasted = 0;
        for (List<Integer> place : copiedPlaces) {
            List<Integer> target = List.of(place.get(0) + dx, place.get(1) + dy);
            if (now.selected.contains(target)) {
                int[] bytes = copiedBytes[place.get(0)][place.get(1)].clone();
                now.layers.get(layer).bytes[target.get(0)][target.get(1)] = bytes;
                pasted++;
            }
        }
        return pasted;
    }

    void mirror(int layer, int axis) {
        needLayer(layer);
        refuseUnless(axis == 0 || axis == 1);
        step();
        int[][][] old = twinOf(now.layers.get(layer).bytes);
        for (List<Integer> place : now.selected) {
            int x = place.get(0);
            int y = place.get(1);
            now.layers.get(layer).bytes[x][y] = axis == 0 ? old[now.width - 1 - x][y] : old[x][now.height - 1 - y];
        }
        now = now.twin();
    }

    private static int[] at(int[][][] bytes, int x, int y) {
        boolean there = x >= 0 && x < bytes.length && y >= 0 && y < bytes[0].length;
        return there ? bytes[x][y] : new int[4];
    }

    void shift(int layer, int dx, int dy) {
        needLayer(layer);
        needWay(dx, dy);
        step();
        int[][][] old = twinOf(now.layers.get(layer).bytes);
        for (List<Integer> place : now.selected) {
            int[] bytes = at(old, place.get(0) - dx, place.get(1) - dy).clone();
            now.layers.get(layer).bytes[place.get(0)][place.get(1)] = bytes;
        }
    }

    void blur(int layer, int radius) {
        needLayer(layer);
        refuseUnless(radius >= 1 && radius <= 4);
        step();
        int n = (2 * radius + 1) * (2 * radius + 1);
        int[][][] old = twinOf(now.layers.get(layer).bytes);
        for (List<Integer> place : now.selected) {
            for (int c = 0; c < 4; c++) {
                int sum = n / 2;
                for (int x = place.get(0) - radius; x <= place.get(0) + radius; x++) {
                    for (int y = place.get(1) - radius; y <= place.get(1) + radius; y++) {
                        sum += at(old, x, y)[c];
                    }
                }
                now.layers.get(layer).bytes[place.get(0)][place.get(1)][c] = sum / n;
            }
        }
    }

    boolean undo() {
        if (back.isEmpty()) {
            return false;
        }
        again.add(now);
        now = back.remove(back.size() - 1);
        return true;
    }

    boolean redo() {
        if (again.isEmpty()) {
            return false;
        }
        back.add(now);
        now = again.remove(again.size() - 1);
        return true;
    }

    private int fullTiles() {
        Set<List<Integer>> full = new HashSet<>();
        for (int i = 0; i < now.layers.size(); i++) {
            for (int x = 0; x < now.width; x++) {
                for (int y = 0; y < now.height; y++) {
                    if (dotOf(now.layers.get(i).bytes[x][y]) != 0) {
                        full.add(List.of(i, x / 8, y / 8));
                    }
                }
            }
        }
        return full.size();
    }

    int save(int most) {
        needPicture();
        int due = fullTiles() + 1;
        int written = most < 0 ? due : Math.min(most, due);
        if (written == due) {
            file = now.twin();
        }
        return written;
    }

    void open() {
        if (file == null) {
            throw new NoSuchElementException();
        }
        now = file.twin();
        back.clear();
        again.clear();
    }

    private static int[][][] half(int[][][] bytes) {
        int width = (bytes.length + 1) / 2;
        int height = (bytes[0].length + 1) / 2;
        int[][][] half = new int[width][height][4];
        for (int x = 0; x < width; x++) {
            for (int y = 0; y < height; y++) {
                int covers = 0;
                int[] sums = new int[3];
                for (int i = 0; i < 4; i++) {
                    int[] one = at(bytes, 2 * x + i % 2, 2 * y + i / 2);
                    covers += one[3];
                    for (int c = 0; c < 3; c++) {
                        sums[c] += one[3] * one[c];
                    }
                }
                half[x][y][3] = (covers + 2) / 4;
                for (int c = 0; c < 3 && covers > 0; c++) {
                    half[x][y][c] = (sums[c] + covers / 2) / covers;
                }
            }
        }
        return half;
    }

    private int[] atLevel(int layer, int level, int x, int y) {
        int[][][] bytes = now.layers.get(layer).bytes;
        for (int k = 0; k < level; k++) {
            bytes = half(bytes);
        }
        if (x < 0 || x >= bytes.length || y < 0 || y >= bytes[0].length) {
            throw new IndexOutOfBoundsException();
        }
        return bytes[x][y];
    }

    int dot(int layer, int level, int x, int y) {
        needLayer(layer);
        refuseUnless(level >= 0 && level <= 3);
        return dotOf(atLevel(layer, level, x, y));
    }

    private static int div(int v) {
        return (v + 127) / 255;
    }

    private static int[] blend(int[] top, int[] base, int mode, int opacity) {
        int s = div(top[3] * opacity);
        int b = base[3];
        int t = 255 * s + b * (255 - s);
        int[] out = {0, 0, 0, div(t)};
        for (int c = 0; c < 3 && t != 0; c++) {
            int product = div(top[c] * base[c]);
            int[] m = {top[c], product, top[c] + base[c] - product, Math.min(top[c], base[c]),
                Math.max(top[c], base[c]), Math.min(255, top[c] + base[c])};
            int x = div(b * m[mode] + (255 - b) * top[c]);
            out[c] = (255 * s * x + b * (255 - s) * base[c] + t / 2) / t;
        }
        return out;
    }

    int view(int level, int x, int y) {
        needPicture();
        refuseUnless(level >= 0 && level <= 3);
        int[] seen = new int[4];
        for (int i = 0; i < now.layers.size(); i++) {
            Layer layer = now.layers.get(i);
            int[] top = atLevel(i, level, x, y);
            if (layer.visible) {
                seen = blend(top, seen, layer.mode, layer.opacity);
            }
        }
        return dotOf(seen);
    }

    int histogram(int layer, int channel, int value) {
        needLayer(layer);
        refuseUnless(channel >= 0 && channel <= 3);
        int found = 0;
        for (List<Integer> place : now.selected) {
            found += now.layers.get(layer).bytes[place.get(0)][place.get(1)][channel] == value ? 1 : 0;
        }
        return found;
    }

    int count(int what) {
        if (what < 0 || what > 5) {
            return -1;
        }
        if (now == null) {
            return 0;
        }
        int size = 10000 * now.width + 100 * now.height;
        int[] all = {now.layers.size(), back.size(), again.size(), fullTiles(), now.selected.size(), size};
        return all[what];
    }
}
