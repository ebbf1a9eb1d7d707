import java.util.NoSuchElementException;

/**
 * A workshop for pictures: layers of dots, tools that paint where dots are selected, steps back and
 * forth, and a file that is whole or not there.
 *
 * A picture never changes once it is made: a step makes a new one that shares with the old one all
 * that stays. So the steps, the file and what was copied only hold on to what they need.
 */
public final class TileStudio {
    private static final int MOST_SIDE = 24;
    private static final int MOST_LAYERS = 3;
    private static final int MOST_LEVEL = 3;
    private static final int MOST_STEPS = 6;
    private static final int TILE_SIDE = 8;
    private static final int TILES_IN_A_ROW = MOST_SIDE / TILE_SIDE;

    private static final int MOST_BRUSH_RADIUS = 7;
    private static final int MOST_BLUR_RADIUS = 4;
    private static final int MOST_SHIFT = 100;
    private static final int MOST_SELECT = 1000;
    private static final int ROUND_SHAPE = 10;

    private static final int FULL = 255;
    private static final int CHANNELS = 4;
    private static final int COLOURS = 3;
    private static final int COVER = 3;

    private static final int NORMAL = 0;
    private static final int MULTIPLY = 1;
    private static final int SCREEN = 2;
    private static final int DARKEN = 3;
    private static final int LIGHTEN = 4;
    private static final int ADD = 5;

    private final History history;
    private Picture file;
    private Copied copied;
    private int brushDot;
    private int brushRadius;

    public TileStudio() {
        history = new History();
    }

    public void make(int width, int height) throws IllegalArgumentException {
        require(isWithin(width, 1, MOST_SIDE) && isWithin(height, 1, MOST_SIDE));
        Places all = new Places(width, height);
        addRectangle(all, 0, 0, width, height);
        Layer[] layers = {clearLayer(width, height)};
        history.begin(new Picture(width, height, layers, all));
    }

    public void layer(int position) throws IllegalArgumentException, IllegalStateException {
        Picture picture = presentPicture();
        require(isWithin(position, 0, picture.layers.length));
        if (picture.layers.length >= MOST_LAYERS) {
            throw new IllegalStateException();
        }
        Layer added = clearLayer(picture.width, picture.height);
        history.add(picture.withLayers(inserted(picture.layers, position, added)));
    }

    public void drop(int layer) throws IllegalArgumentException, IllegalStateException {
        Picture picture = pictureWithLayer(layer);
        if (picture.layers.length == 1) {
            throw new IllegalStateException();
        }
        history.add(picture.withLayers(removed(picture.layers, layer)));
    }

    public void move(int from, int to) throws IllegalArgumentException {
        Picture picture = pictureWithLayer(from);
        require(isWithin(to, 0, picture.layers.length - 1));
        Layer[] others = removed(picture.layers, from);
        history.add(picture.withLayers(inserted(others, to, picture.layers[from])));
    }

    public void mode(int layer, int mode, int opacity, boolean visible)
            throws IllegalArgumentException {
        Picture picture = pictureWithLayer(layer);
        require(isWithin(mode, NORMAL, ADD) && isWithin(opacity, 0, FULL));
        Layer changed = picture.layers[layer].withBlending(mode, opacity, visible);
        history.add(picture.withLayer(layer, changed));
    }

    public int select(int kind, int x, int y, int size) throws IllegalArgumentException {
        Picture picture = presentPicture();
        int wide = size & 0xFFFF;
        int high = size >>> 16;
        require(isWithin(kind, 0, ROUND_SHAPE + 3) && kind % ROUND_SHAPE <= 3);
        require(isWithin(x, -MOST_SELECT, MOST_SELECT) && isWithin(y, -MOST_SELECT, MOST_SELECT));
        require(wide <= MOST_SELECT && high <= MOST_SELECT);
        Places shape = new Places(picture.width, picture.height);
        if (kind < ROUND_SHAPE) {
            addRectangle(shape, x, y, wide, high);
        } else {
            addEllipse(shape, x, y, wide, high);
        }
        Places selection = joined(picture.selection, shape, kind % ROUND_SHAPE);
        history.add(picture.withSelection(selection));
        return selection.size();
    }

    public void brush(int dot, int radius) throws IllegalArgumentException {
        require(isWithin(radius, 0, MOST_BRUSH_RADIUS));
        brushDot = dot;
        brushRadius = radius;
    }

    public void fill(int layer, int dot) throws IllegalArgumentException {
        Painting painting = paintingOf(layer);
        for (int y = 0; y < painting.height(); y++) {
            for (int x = 0; x < painting.width(); x++) {
                painting.put(x, y, dot);
            }
        }
        history.add(painting.result());
    }

    public void gradient(int layer, int first, int last, int axis) throws IllegalArgumentException {
        Painting painting = paintingOf(layer);
        require(isWithin(axis, 0, 1));
        int end = (axis == 0 ? painting.width() : painting.height()) - 1;
        for (int y = 0; y < painting.height(); y++) {
            for (int x = 0; x < painting.width(); x++) {
                painting.put(x, y, Dots.between(first, last, axis == 0 ? x : y, end));
            }
        }
        history.add(painting.result());
    }

    public void stroke(int layer, int from, int to) throws IllegalArgumentException {
        Painting painting = paintingOf(layer);
        requireShift((short) from, from >> 16);
        requireShift((short) to, to >> 16);
        Places touched = new Places(painting.width(), painting.height());
        addLine(touched, from, to, brushRadius);
        for (int y = 0; y < painting.height(); y++) {
            for (int x = 0; x < painting.width(); x++) {
                if (touched.has(x, y)) {
                    int under = painting.before.dotAt(x, y);
                    painting.put(x, y, Dots.blended(brushDot, under, NORMAL, FULL));
                }
            }
        }
        history.add(painting.result());
    }

    public int flood(int layer, int x, int y, int dot, int tolerance)
            throws IllegalArgumentException {
        Painting painting = paintingOf(layer);
        require(isWithin(x, 0, painting.width() - 1) && isWithin(y, 0, painting.height() - 1));
        require(isWithin(tolerance, 0, FULL));
        int wanted = painting.before.dotAt(x, y);
        Places reached = reachedFrom(x, y, alikePlaces(painting, wanted, tolerance));
        for (int atY = 0; atY < painting.height(); atY++) {
            for (int atX = 0; atX < painting.width(); atX++) {
                if (reached.has(atX, atY)) {
                    painting.put(atX, atY, dot);
                }
            }
        }
        history.add(painting.result());
        return reached.size();
    }

    public int copy(int layer) throws IllegalArgumentException {
        Picture picture = pictureWithLayer(layer);
        copied = new Copied(picture.layers[layer], picture.selection);
        return picture.selection.size();
    }

    public int paste(int layer, int dx, int dy)
            throws IllegalArgumentException, NoSuchElementException {
        Painting painting = paintingOf(layer);
        requireShift(dx, dy);
        if (copied == null) {
            throw new NoSuchElementException();
        }
        int pasted = 0;
        for (int y = 0; y < painting.height(); y++) {
            for (int x = 0; x < painting.width(); x++) {
                if (painting.takes(x, y) && copied.places.has(x - dx, y - dy)) {
                    painting.put(x, y, copied.layer.dotAt(x - dx, y - dy));
                    pasted++;
                }
            }
        }
        history.add(painting.result());
        return pasted;
    }

    public void mirror(int layer, int axis) throws IllegalArgumentException {
        Painting painting = paintingOf(layer);
        require(isWithin(axis, 0, 1));
        for (int y = 0; y < painting.height(); y++) {
            for (int x = 0; x < painting.width(); x++) {
                int fromX = axis == 0 ? painting.width() - 1 - x : x;
                int fromY = axis == 1 ? painting.height() - 1 - y : y;
                painting.put(x, y, painting.before.dotAt(fromX, fromY));
            }
        }
        history.add(painting.result());
    }

    public void shift(int layer, int dx, int dy) throws IllegalArgumentException {
        Painting painting = paintingOf(layer);
        requireShift(dx, dy);
        for (int y = 0; y < painting.height(); y++) {
            for (int x = 0; x < painting.width(); x++) {
                painting.put(x, y, painting.before.dotAt(x - dx, y - dy));
            }
        }
        history.add(painting.result());
    }

    public void blur(int layer, int radius) throws IllegalArgumentException {
        Painting painting = paintingOf(layer);
        require(isWithin(radius, 1, MOST_BLUR_RADIUS));
        int[] sums = new int[CHANNELS * painting.width()];
        for (int y = 0; y < painting.height(); y++) {
            sumColumns(painting.before, y, radius, sums);
            for (int x = 0; x < painting.width(); x++) {
                painting.put(x, y, blurredDot(sums, x, radius));
            }
        }
        history.add(painting.result());
    }

    public boolean undo() {
        return history.goBack();
    }

    public boolean redo() {
        return history.goForth();
    }

    public int save(int most) throws IllegalArgumentException {
        Picture picture = presentPicture();
        int pages = picture.fullTiles() + 1;
        if (most >= 0 && most < pages) {
            return most;
        }
        file = picture;
        return pages;
    }

    public void open() throws NoSuchElementException {
        if (file == null) {
            throw new NoSuchElementException();
        }
        history.begin(file);
    }

    public int dot(int layer, int level, int x, int y)
            throws IllegalArgumentException, IndexOutOfBoundsException {
        Picture picture = pictureWithLayer(layer);
        require(isWithin(level, 0, MOST_LEVEL));
        requirePlace(picture, level, x, y);
        return dotAtLevel(picture.layers[layer], level, x, y);
    }

    public int view(int level, int x, int y)
            throws IllegalArgumentException, IndexOutOfBoundsException {
        Picture picture = presentPicture();
        require(isWithin(level, 0, MOST_LEVEL));
        requirePlace(picture, level, x, y);
        int seen = 0;
        for (int position = 0; position < picture.layers.length; position++) {
            Layer layer = picture.layers[position];
            if (layer.visible) {
                int over = dotAtLevel(layer, level, x, y);
                seen = Dots.blended(over, seen, layer.blending, layer.opacity);
            }
        }
        return seen;
    }

    public int histogram(int layer, int channel, int value) throws IllegalArgumentException {
        Picture picture = pictureWithLayer(layer);
        require(isWithin(channel, 0, CHANNELS - 1));
        int found = 0;
        for (int y = 0; y < picture.height; y++) {
            for (int x = 0; x < picture.width; x++) {
                int dot = picture.layers[layer].dotAt(x, y);
                if (picture.selection.has(x, y) && Dots.byteOf(dot, channel) == value) {
                    found++;
                }
            }
        }
        return found;
    }

    public int count(int what) {
        if (!isWithin(what, 0, 5)) {
            return -1;
        }
        Picture picture = history.present();
        if (picture == null) {
            return 0;
        }
        switch (what) {
            case 0:
                return picture.layers.length;
            case 1:
                return history.stepsBack();
            case 2:
                return history.stepsForth();
            case 3:
                return picture.fullTiles();
            case 4:
                return picture.selection.size();
            default:
                return 10000 * picture.width + 100 * picture.height;
        }
    }

    private static boolean isWithin(int value, int least, int most) {
        return value >= least && value <= most;
    }

    private static void require(boolean isAsSaid) {
        if (!isAsSaid) {
            throw new IllegalArgumentException();
        }
    }

    private static void requireShift(int dx, int dy) {
        require(isWithin(dx, -MOST_SHIFT, MOST_SHIFT) && isWithin(dy, -MOST_SHIFT, MOST_SHIFT));
    }

    private static void requirePlace(Picture picture, int level, int x, int y) {
        if (!isWithin(x, 0, sideAtLevel(picture.width, level) - 1)
                || !isWithin(y, 0, sideAtLevel(picture.height, level) - 1)) {
            throw new IndexOutOfBoundsException();
        }
    }

    private Picture presentPicture() {
        Picture picture = history.present();
        if (picture == null) {
            throw new IllegalArgumentException();
        }
        return picture;
    }

    private Picture pictureWithLayer(int position) {
        Picture picture = presentPicture();
        require(isWithin(position, 0, picture.layers.length - 1));
        return picture;
    }

    private Painting paintingOf(int position) {
        return new Painting(pictureWithLayer(position), position);
    }

    private static Layer clearLayer(int width, int height) {
        return new Layer(width, height, new int[width * height], NORMAL, FULL, true);
    }

    private static Layer[] inserted(Layer[] layers, int position, Layer added) {
        Layer[] more = new Layer[layers.length + 1];
        for (int i = 0; i < more.length; i++) {
            if (i < position) {
                more[i] = layers[i];
            } else {
                more[i] = i == position ? added : layers[i - 1];
            }
        }
        return more;
    }

    private static Layer[] removed(Layer[] layers, int position) {
        Layer[] fewer = new Layer[layers.length - 1];
        for (int i = 0; i < fewer.length; i++) {
            fewer[i] = layers[i < position ? i : i + 1];
        }
        return fewer;
    }

    private static void addRectangle(Places places, int left, int top, int wide, int high) {
        for (int y = 0; y < places.height(); y++) {
            for (int x = 0; x < places.width; x++) {
                if (isInBox(x - left, y - top, wide, high)) {
                    places.add(x, y);
                }
            }
        }
    }

    private static void addEllipse(Places places, int left, int top, int wide, int high) {
        for (int y = 0; y < places.height(); y++) {
            for (int x = 0; x < places.width; x++) {
                if (isInBox(x - left, y - top, wide, high)
                        && isInEllipse(x - left, y - top, wide, high)) {
                    places.add(x, y);
                }
            }
        }
    }

    private static boolean isInBox(int x, int y, int wide, int high) {
        return x >= 0 && x < wide && y >= 0 && y < high;
    }

    // The products reach a million millions, so they are longs.
    private static boolean isInEllipse(int x, int y, int wide, int high) {
        long acrossSquare = (2L * x + 1 - wide) * (2L * x + 1 - wide);
        long downSquare = (2L * y + 1 - high) * (2L * y + 1 - high);
        long wideSquare = (long) wide * wide;
        long highSquare = (long) high * high;
        return acrossSquare * highSquare + downSquare * wideSquare <= wideSquare * highSquare;
    }

    private static Places joined(Places old, Places shape, int how) {
        Places result = new Places(old.width, old.height());
        for (int y = 0; y < old.height() && y < shape.height(); y++) {
            result.rows[y] = joinedRow(old.rows[y], shape.rows[y], how);
        }
        return result;
    }

    private static int joinedRow(int old, int shape, int how) {
        switch (how) {
            case 0:
                return shape;
            case 1:
                return old | shape;
            case 2:
                return old & ~shape;
            default:
                return old & shape;
        }
    }

    private static void addLine(Places touched, int from, int to, int radius) {
        int startX = (short) from;
        int startY = from >> 16;
        int wayX = (short) to - startX;
        int wayY = (to >> 16) - startY;
        int last = Math.max(Math.abs(wayX), Math.abs(wayY));
        for (int step = 0; step <= last; step++) {
            addDisc(touched, startX + partOf(wayX, step, last), startY + partOf(wayY, step, last),
                    radius);
        }
    }

    private static int partOf(int way, int step, int last) {
        return last == 0 ? 0 : Math.floorDiv(2 * step * way + last, 2 * last);
    }

    private static void addDisc(Places touched, int middleX, int middleY, int radius) {
        for (int dy = -radius; dy <= radius; dy++) {
            for (int dx = -radius; dx <= radius; dx++) {
                if (dx * dx + dy * dy <= radius * radius) {
                    touched.add(middleX + dx, middleY + dy);
                }
            }
        }
    }

    private static Places alikePlaces(Painting painting, int wanted, int tolerance) {
        Places alike = new Places(painting.width(), painting.height());
        for (int y = 0; y < painting.height(); y++) {
            for (int x = 0; x < painting.width(); x++) {
                if (painting.takes(x, y)
                        && Dots.areAlike(painting.before.dotAt(x, y), wanted, tolerance)) {
                    alike.add(x, y);
                }
            }
        }
        return alike;
    }

    // A round that goes on has reached a place more, so there are no more rounds than places.
    private static Places reachedFrom(int x, int y, Places open) {
        Places reached = new Places(open.width, open.height());
        boolean grows = open.has(x, y);
        if (grows) {
            reached.add(x, y);
        }
        int places = open.width * open.height();
        for (int round = 0; round < places && grows; round++) {
            grows = spread(reached, open);
        }
        return reached;
    }

    private static boolean spread(Places reached, Places open) {
        boolean grew = false;
        for (int y = 0; y < open.height(); y++) {
            int row = reached.rows[y];
            int near = row | row << 1 | row >> 1 | reached.rowAt(y - 1) | reached.rowAt(y + 1);
            reached.rows[y] = near & open.rows[y];
            grew = grew || reached.rows[y] != row;
        }
        return grew;
    }

    // Summing each column first spares the adding of every dot of a square for every dot.
    private static void sumColumns(Layer layer, int middle, int radius, int[] sums) {
        for (int i = 0; i < sums.length; i++) {
            int sum = 0;
            for (int y = middle - radius; y <= middle + radius; y++) {
                sum += Dots.byteOf(layer.dotAt(i / CHANNELS, y), i % CHANNELS);
            }
            sums[i] = sum;
        }
    }

    private static int blurredDot(int[] sums, int middle, int radius) {
        int first = Math.max(0, middle - radius);
        int last = Math.min(sums.length / CHANNELS - 1, middle + radius);
        int parts = (2 * radius + 1) * (2 * radius + 1);
        int dot = 0;
        for (int channel = 0; channel < CHANNELS; channel++) {
            int sum = 0;
            for (int x = first; x <= last; x++) {
                sum += sums[CHANNELS * x + channel];
            }
            dot |= Dots.placed((sum + parts / 2) / parts, channel);
        }
        return dot;
    }

    private static int sideAtLevel(int side, int level) {
        return (side + (1 << level) - 1) >> level;
    }

    // Beyond the edge of a level all four dots are beyond the edge below: they merge to 0, as due.
    private static int dotAtLevel(Layer layer, int level, int x, int y) {
        if (level <= 0 || level > MOST_LEVEL) {
            return layer.dotAt(x, y);
        }
        return Dots.merged(
                dotAtLevel(layer, level - 1, 2 * x, 2 * y),
                dotAtLevel(layer, level - 1, 2 * x + 1, 2 * y),
                dotAtLevel(layer, level - 1, 2 * x, 2 * y + 1),
                dotAtLevel(layer, level - 1, 2 * x + 1, 2 * y + 1));
    }

    /** What is reckoned with single dots, which are numbers of four bytes. */
    private static final class Dots {
        static int byteOf(int dot, int channel) {
            return dot >>> 24 - 8 * channel & 255;
        }

        static int placed(int value, int channel) {
            return value << 24 - 8 * channel;
        }

        static int div(int value) {
            return (value + 127) / 255;
        }

        static boolean areAlike(int one, int other, int tolerance) {
            for (int channel = 0; channel < CHANNELS; channel++) {
                if (Math.abs(byteOf(one, channel) - byteOf(other, channel)) > tolerance) {
                    return false;
                }
            }
            return true;
        }

        static int between(int first, int last, int step, int end) {
            if (end == 0) {
                return first;
            }
            int dot = 0;
            for (int channel = 0; channel < CHANNELS; channel++) {
                int sum = byteOf(first, channel) * (end - step) + byteOf(last, channel) * step;
                dot |= placed((sum + end / 2) / end, channel);
            }
            return dot;
        }

        static int merged(int a, int b, int c, int d) {
            int covers = byteOf(a, COVER) + byteOf(b, COVER) + byteOf(c, COVER) + byteOf(d, COVER);
            if (covers == 0) {
                return 0;
            }
            int dot = placed((covers + 2) / 4, COVER);
            for (int channel = 0; channel < COLOURS; channel++) {
                int sum = covered(a, channel) + covered(b, channel)
                        + covered(c, channel) + covered(d, channel);
                dot |= placed((sum + covers / 2) / covers, channel);
            }
            return dot;
        }

        static int covered(int dot, int channel) {
            return byteOf(dot, COVER) * byteOf(dot, channel);
        }

        static int blended(int over, int under, int mode, int opacity) {
            int overCover = div(byteOf(over, COVER) * opacity);
            int underCover = byteOf(under, COVER);
            int overPart = 255 * overCover;
            int underPart = underCover * (255 - overCover);
            int whole = overPart + underPart;
            if (whole == 0) {
                return 0;
            }
            int dot = placed(div(whole), COVER);
            for (int channel = 0; channel < COLOURS; channel++) {
                int top = byteOf(over, channel);
                int bottom = byteOf(under, channel);
                int mixed = mixed(top, bottom, mode);
                int shown = div(underCover * mixed + (255 - underCover) * top);
                int sum = overPart * shown + underPart * bottom;
                dot |= placed((sum + whole / 2) / whole, channel);
            }
            return dot;
        }

        static int mixed(int top, int bottom, int mode) {
            switch (mode) {
                case MULTIPLY:
                    return div(top * bottom);
                case SCREEN:
                    return top + bottom - div(top * bottom);
                case DARKEN:
                    return Math.min(top, bottom);
                case LIGHTEN:
                    return Math.max(top, bottom);
                case ADD:
                    return Math.min(FULL, top + bottom);
                default:
                    return top;
            }
        }
    }

    /** A set of places of a picture: bit x of row y tells whether x, y is one of them. */
    private static final class Places {
        final int width;
        final int[] rows;

        Places(int width, int height) {
            this.width = width;
            this.rows = new int[height];
        }

        int height() {
            return rows.length;
        }

        int rowAt(int y) {
            return y >= 0 && y < rows.length ? rows[y] : 0;
        }

        boolean has(int x, int y) {
            return x >= 0 && x < width && (rowAt(y) >> x & 1) != 0;
        }

        void add(int x, int y) {
            if (isInBox(x, y, width, rows.length)) {
                rows[y] |= 1 << x;
            }
        }

        int size() {
            int size = 0;
            for (int y = 0; y < rows.length; y++) {
                size += Integer.bitCount(rows[y]);
            }
            return size;
        }
    }

    /** Dots, row by row, and how they are blended. */
    private static final class Layer {
        final int width;
        final int height;
        final int[] dots;
        final int blending;
        final int opacity;
        final boolean visible;

        Layer(int width, int height, int[] dots, int blending, int opacity, boolean visible) {
            this.width = width;
            this.height = height;
            this.dots = dots;
            this.blending = blending;
            this.opacity = opacity;
            this.visible = visible;
        }

        Layer withDots(int[] newDots) {
            return new Layer(width, height, newDots, blending, opacity, visible);
        }

        Layer withBlending(int newBlending, int newOpacity, boolean newVisible) {
            return new Layer(width, height, dots, newBlending, newOpacity, newVisible);
        }

        int dotAt(int x, int y) {
            return isInBox(x, y, width, height) ? dots[y * width + x] : 0;
        }

        int fullTiles() {
            int full = 0;
            for (int y = 0; y < height; y++) {
                for (int x = 0; x < width; x++) {
                    if (dotAt(x, y) != 0) {
                        full |= 1 << y / TILE_SIDE * TILES_IN_A_ROW + x / TILE_SIDE;
                    }
                }
            }
            return Integer.bitCount(full);
        }
    }

    /** All that a step can change. */
    private static final class Picture {
        final int width;
        final int height;
        final Layer[] layers;
        final Places selection;

        Picture(int width, int height, Layer[] layers, Places selection) {
            this.width = width;
            this.height = height;
            this.layers = layers;
            this.selection = selection;
        }

        Picture withLayers(Layer[] newLayers) {
            return new Picture(width, height, newLayers, selection);
        }

        Picture withSelection(Places newSelection) {
            return new Picture(width, height, layers, newSelection);
        }

        Picture withLayer(int position, Layer changed) {
            Layer[] newLayers = new Layer[layers.length];
            for (int i = 0; i < newLayers.length; i++) {
                newLayers[i] = i == position ? changed : layers[i];
            }
            return withLayers(newLayers);
        }

        int fullTiles() {
            int full = 0;
            for (int i = 0; i < layers.length; i++) {
                full += layers[i].fullTiles();
            }
            return full;
        }
    }

    /** A tool at work: it looks at the layer as it was, and only selected dots take what it puts. */
    private static final class Painting {
        final Picture picture;
        final int position;
        final Layer before;
        final int[] after;

        Painting(Picture picture, int position) {
            this.picture = picture;
            this.position = position;
            this.before = picture.layers[position];
            this.after = before.dots.clone();
        }

        int width() {
            return picture.width;
        }

        int height() {
            return picture.height;
        }

        boolean takes(int x, int y) {
            return picture.selection.has(x, y);
        }

        void put(int x, int y, int dot) {
            if (takes(x, y)) {
                after[y * before.width + x] = dot;
            }
        }

        Picture result() {
            return picture.withLayer(position, before.withDots(after));
        }
    }

    /** What was copied: the places that were selected then, and the layer as it was. */
    private static final class Copied {
        final Layer layer;
        final Places places;

        Copied(Layer layer, Places places) {
            this.layer = layer;
            this.places = places;
        }
    }

    /** The picture that is there, those that steps back lead to, and those that steps again do. */
    private static final class History {
        final Picture[] pictures;
        int present;
        int last;

        History() {
            pictures = new Picture[MOST_STEPS + 1];
        }

        Picture present() {
            return pictures[present];
        }

        void begin(Picture picture) {
            present = 0;
            last = 0;
            pictures[0] = picture;
        }

        void add(Picture picture) {
            if (present >= MOST_STEPS) {
                forgetOldest();
            } else {
                present++;
            }
            last = present;
            pictures[present] = picture;
        }

        void forgetOldest() {
            for (int i = 1; i < pictures.length; i++) {
                pictures[i - 1] = pictures[i];
            }
        }

        boolean goBack() {
            if (present <= 0) {
                return false;
            }
            present--;
            return true;
        }

        boolean goForth() {
            if (present >= last) {
                return false;
            }
            present++;
            return true;
        }

        int stepsBack() {
            return present;
        }

        int stepsForth() {
            return last - present;
        }
    }
}
