import java.util.NoSuchElementException;

/** Promises 20 and 21: save, open. */
public final class FileTest {
    public static void main(String[] args) {
        pages();
        notWhole();
        wholeAgain();
        emptyPicture();
        openBringsAll();
        fileStays();
        stepsStay();
        Check.finish();
    }

    private static void pages() {
        TileStudio studio = Make.studio(24, 24);
        Check.same("20: the closing page alone", studio.save(-1), 1);
        Make.put(studio, 0, 23, 23, 1);
        Check.same("20: a tile", studio.save(Integer.MIN_VALUE), 2);
        studio.layer(0);
        studio.layer(0);
        Check.same("20: empty layers have no pages", studio.save(-1), 2);
        for (int layer = 0; layer < 3; layer++) {
            studio.fill(layer, 0x01000000);
        }
        Check.same("20: all tiles of three layers", studio.save(-1), 28);
        studio.mode(1, 0, 0, false);
        Check.same("20: those that are not seen, too", studio.save(Integer.MAX_VALUE), 28);
        Check.same("20: just enough", studio.save(28), 28);
        Check.same("20: one too few", studio.save(27), 27);
        Check.same("20: none", studio.save(0), 0);
    }

    private static void notWhole() {
        TileStudio studio = Make.studio(9, 1);
        studio.fill(0, 1);
        for (int most = 0; most < 3; most++) {
            Check.same("20: too few", studio.save(most), most);
            Check.refuses("21: not there", NoSuchElementException.class, studio::open);
        }
        Check.same("20: picture and steps stay", studio.count(1), 1);
        Check.same("20: whole", studio.save(3), 3);
        studio.fill(0, 2);
        for (int most = 0; most < 3; most++) {
            Check.same("20: too few", studio.save(most), most);
        }
        studio.open();
        Check.same("20: the one that was saved before", studio.dot(0, 0, 8, 0), 1);
    }

    private static void wholeAgain() {
        TileStudio studio = Make.studio(9, 1);
        studio.fill(0, 1);
        studio.save(-1);
        studio.fill(0, 2);
        studio.save(2);
        Check.same("20: pages are written anew", studio.save(1), 1);
        studio.open();
        Check.same("20: two parts make no whole", studio.dot(0, 0, 0, 0), 1);
        studio.fill(0, 3);
        Check.same("20: whole", studio.save(3), 3);
        studio.fill(0, 4);
        studio.open();
        Check.same("21: the last whole one", studio.dot(0, 0, 0, 0), 3);
    }

    private static void emptyPicture() {
        TileStudio studio = Make.studio(7, 3);
        Check.same("20: not even the closing page", studio.save(0), 0);
        Check.refuses("21: not there", NoSuchElementException.class, studio::open);
        Check.same("20: the closing page", studio.save(1), 1);
        studio.make(2, 2);
        studio.open();
        Check.same("21: its size", studio.count(5), 70300);
        Check.same("21: its tiles", studio.count(3), 0);
    }

    private static void openBringsAll() {
        TileStudio studio = Make.studio(10, 4);
        studio.fill(0, 0x646464FF);
        studio.layer(1);
        studio.fill(1, 0xC8C8C8FF);
        studio.mode(1, 3, 255, true);
        studio.layer(2);
        studio.fill(2, -1);
        studio.mode(2, 0, 255, false);
        studio.select(10, 0, 0, Make.size(4, 4));
        studio.brush(0x01020304, 0);
        studio.save(-1);
        studio.make(2, 2);
        studio.layer(1);
        studio.undo();
        studio.brush(0x0506FFFF, 1);
        studio.open();
        Check.same("21: layers", studio.count(0), 3);
        Check.same("21: no steps back", studio.count(1), 0);
        Check.same("21: no steps again", studio.count(2), 0);
        Check.holds("21: undo", !studio.undo());
        Check.holds("21: redo", !studio.redo());
        Check.same("21: tiles", studio.count(3), 6);
        Check.same("21: selection", studio.count(4), 12);
        Check.same("21: size", studio.count(5), 100400);
        Check.sameDot("21: mode, opacity and visibility", studio.view(0, 9, 3), 0x646464FF);
        Check.sameDot("21: dots", studio.dot(1, 0, 5, 2), 0xC8C8C8FF);
        studio.mode(1, 0, 0, false);
        studio.stroke(0, Make.at(1, 0), Make.at(1, 0));
        Make.checkRow("21: the brush stays, the places selected are the same", studio, 0, 0,
                0x646464FF, 0x0506FFFF, 0x0506FFFF, 0x646464FF);
        Check.sameDot("21: below, too", studio.dot(0, 0, 1, 1), 0x0506FFFF);
    }

    private static void fileStays() {
        TileStudio studio = Make.studio(3, 3);
        studio.fill(0, 1);
        studio.save(-1);
        studio.open();
        studio.fill(0, 2);
        studio.select(0, 0, 0, 0);
        studio.layer(0);
        studio.open();
        Check.same("21: what is done later does not reach the file", studio.dot(0, 0, 2, 2), 1);
        Check.same("21: nor its selection", studio.count(4), 9);
        Check.same("21: nor its layers", studio.count(0), 1);
        studio.fill(0, 5);
        studio.undo();
        Check.same("21: steps begin with what was opened", studio.dot(0, 0, 0, 0), 1);
        Check.holds("21: no more steps", !studio.undo());
    }

    private static void stepsStay() {
        TileStudio studio = Make.studio(3, 3);
        studio.fill(0, 1);
        studio.fill(0, 2);
        studio.undo();
        studio.save(-1);
        Check.same("20: back", studio.count(1), 1);
        Check.same("20: again", studio.count(2), 1);
        studio.redo();
        Check.same("20: done again", studio.dot(0, 0, 0, 0), 2);
        studio.open();
        Check.same("20: the picture as it was", studio.dot(0, 0, 0, 0), 1);
    }
}
