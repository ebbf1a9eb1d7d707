/** Studios and arguments that several tests need. */
final class Make {
    private Make() {
    }

    static TileStudio studio(int width, int height) {
        TileStudio studio = new TileStudio();
        studio.make(width, height);
        return studio;
    }

    /** A size as select takes it. */
    static int size(int wide, int high) {
        return wide & 0xFFFF | high << 16;
    }

    /** A place as stroke takes it. */
    static int at(int x, int y) {
        return x & 0xFFFF | y << 16;
    }

    static void selectAll(TileStudio studio) {
        studio.select(0, 0, 0, size(24, 24));
    }

    static void selectOne(TileStudio studio, int x, int y) {
        studio.select(0, x, y, size(1, 1));
    }

    /** Sets one dot (three steps) and leaves all selected. */
    static void put(TileStudio studio, int layer, int x, int y, int dot) {
        selectOne(studio, x, y);
        studio.fill(layer, dot);
        selectAll(studio);
    }

    /** Sets the dots of a row, and leaves all selected. */
    static void putRow(TileStudio studio, int layer, int y, int... dots) {
        for (int x = 0; x < dots.length; x++) {
            put(studio, layer, x, y, dots[x]);
        }
    }

    static void checkRow(String what, TileStudio studio, int layer, int y, int... due) {
        for (int x = 0; x < due.length; x++) {
            Check.sameDot(what + ", dot " + x + ", " + y, studio.dot(layer, 0, x, y), due[x]);
        }
    }
}
