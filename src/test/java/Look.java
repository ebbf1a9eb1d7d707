import java.util.NoSuchElementException;

/** What can be seen of a studio, as a text, so that two of them can be compared. */
final class Look {
    private Look() {
    }

    /** All counts, and of a picture all dots and its view at level 0. */
    static String at(TileStudio studio) {
        StringBuilder text = new StringBuilder();
        for (int what = 0; what <= 5; what++) {
            text.append(studio.count(what)).append(' ');
        }
        int width = studio.count(5) / 10000;
        int height = studio.count(5) / 100 % 100;
        for (int y = 0; y < height; y++) {
            for (int x = 0; x < width; x++) {
                for (int layer = 0; layer < studio.count(0); layer++) {
                    text.append(Integer.toHexString(studio.dot(layer, 0, x, y))).append(' ');
                }
                text.append("seen ").append(Integer.toHexString(studio.view(0, x, y))).append(' ');
            }
        }
        return text.append('\n').toString();
    }

    /**
     * All that calls can bring to light: the picture, those that steps lead to, what was copied, the brush and the
     * file. The studio is another one afterwards.
     */
    static String throughAll(TileStudio studio) {
        StringBuilder text = new StringBuilder(at(studio));
        while (studio.redo()) {
            text.append("again ").append(at(studio));
        }
        while (studio.undo()) {
            text.append("back ").append(at(studio));
        }
        text.append("file ").append(opened(studio));
        studio.make(2, 1);
        text.append("copied ").append(pasted(studio));
        studio.make(16, 1);
        studio.stroke(0, 0, 0);
        return text.append("brush ").append(at(studio)).toString();
    }

    /** The selected places as 1, the others as 0, row by row. Steps that were taken back are lost by it. */
    static String selection(TileStudio studio) {
        StringBuilder text = new StringBuilder();
        int width = studio.count(5) / 10000;
        int height = studio.count(5) / 100 % 100;
        for (int y = 0; y < height; y++) {
            for (int x = 0; x < width; x++) {
                text.append(studio.select(3, x, y, Make.size(1, 1)));
                studio.undo();
            }
            text.append(' ');
        }
        return text.toString();
    }

    private static String opened(TileStudio studio) {
        try {
            studio.open();
        } catch (NoSuchElementException e) {
            return "none\n";
        }
        return at(studio);
    }

    private static String pasted(TileStudio studio) {
        int dots;
        try {
            dots = studio.paste(0, 0, 0);
        } catch (NoSuchElementException e) {
            return "none\n";
        }
        return dots + " " + at(studio);
    }
}
