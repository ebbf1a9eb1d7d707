import java.util.NoSuchElementException;

/** Promises 13 to 17: copy, paste, mirror, shift, blur. */
public final class MoveDotsTest {
    public static void main(String[] args) {
        copy();
        copyKeepsWhatWas();
        paste();
        pasteIntoAnotherPicture();
        pasteWhereSelected();
        pasteRefuses();
        mirror();
        mirrorWhereSelected();
        shift();
        shiftRefuses();
        blur();
        blurWhereSelected();
        blurRefuses();
        Check.finish();
    }

    private static TileStudio numbered(int width, int height) {
        TileStudio studio = Make.studio(width, height);
        for (int y = 0; y < height; y++) {
            for (int x = 0; x < width; x++) {
                Make.put(studio, 0, x, y, 10 * y + x + 1);
            }
        }
        return studio;
    }

    private static void copy() {
        TileStudio studio = Make.studio(4, 3);
        Check.same("13: all", studio.copy(0), 12);
        studio.select(0, 1, 1, Make.size(2, 2));
        int steps = studio.count(1);
        Check.same("13: those selected", studio.copy(0), 4);
        Check.same("13: no step", studio.count(1), steps);
        studio.undo();
        studio.copy(0);
        Check.same("13: done again stays", studio.count(2), 1);
        studio.select(0, 0, 0, 0);
        Check.same("13: none", studio.copy(0), 0);
        Check.same("13: a copy of no dots is one", studio.paste(0, 0, 0), 0);
        Check.refusesNumber("13: layer 1", () -> studio.copy(1));
        Check.refusesNumber("13: layer -1", () -> studio.copy(-1));
    }

    private static void copyKeepsWhatWas() {
        TileStudio studio = numbered(3, 1);
        studio.select(0, 0, 0, Make.size(2, 1));
        studio.copy(0);
        Make.selectAll(studio);
        studio.fill(0, 99);
        Check.refusesNumber("13: a refused copy", () -> studio.copy(5));
        Check.same("13: dots as they were", studio.paste(0, 0, 0), 2);
        Make.checkRow("13: dots as they were", studio, 0, 0, 1, 2, 99);
        studio.undo();
        studio.undo();
        Check.same("13: steps back leave what was copied", studio.paste(0, 1, 0), 2);
        Make.checkRow("13: steps back leave what was copied", studio, 0, 0, 1, 1, 2);
    }

    private static void paste() {
        TileStudio studio = numbered(3, 3);
        studio.layer(1);
        studio.fill(1, 0x77777777);
        studio.select(0, 0, 1, Make.size(2, 2));
        Check.same("14: copied", studio.copy(0), 4);
        Make.selectAll(studio);
        Check.same("14: moved right and up", studio.paste(1, 1, -1), 4);
        Make.checkRow("14: row 0", studio, 1, 0, 0x77777777, 11, 12);
        Make.checkRow("14: row 1", studio, 1, 1, 0x77777777, 21, 22);
        Make.checkRow("14: row 2", studio, 1, 2, 0x77777777, 0x77777777, 0x77777777);
        Check.same("14: partly outside", studio.paste(1, -1, 1), 1);
        Make.checkRow("14: partly outside", studio, 1, 2, 12, 0x77777777, 0x77777777);
        int steps = studio.count(1);
        studio.undo();
        Check.same("14: wholly outside", studio.paste(1, 100, -100), 0);
        Check.same("14: a step, even if nothing changes", studio.count(1), steps);
        Check.same("14: and nothing is done again", studio.count(2), 0);
        TileStudio clear = Make.studio(2, 1);
        Make.putRow(clear, 0, 0, 0, 5);
        clear.copy(0);
        clear.fill(0, -1);
        clear.paste(0, 0, 0);
        Make.checkRow("14: clear dots take the place, too", clear, 0, 0, 0, 5);
    }

    private static void pasteIntoAnotherPicture() {
        TileStudio studio = numbered(3, 2);
        studio.copy(0);
        studio.make(5, 5);
        Check.same("14: into a greater one", studio.paste(0, 2, 3), 6);
        Make.checkRow("14: greater, row 3", studio, 0, 3, 0, 0, 1, 2, 3);
        Make.checkRow("14: greater, row 4", studio, 0, 4, 0, 0, 11, 12, 13);
        studio.make(2, 1);
        Check.same("14: into a smaller one", studio.paste(0, -1, -1), 2);
        Make.checkRow("14: smaller", studio, 0, 0, 12, 13);
    }

    private static void pasteWhereSelected() {
        TileStudio studio = numbered(4, 1);
        studio.copy(0);
        studio.select(0, 0, 0, Make.size(1, 1));
        studio.select(1, 2, 0, Make.size(2, 1));
        Check.same("14: where selected", studio.paste(0, 1, 0), 2);
        Make.checkRow("14: where selected", studio, 0, 0, 1, 2, 2, 3);
    }

    private static void pasteRefuses() {
        TileStudio studio = Make.studio(2, 2);
        Check.refuses("14: nothing was copied", NoSuchElementException.class, () -> studio.paste(0, 0, 0));
        Check.refusesNumber("14: no such layer comes first", () -> studio.paste(1, 0, 0));
        Check.refusesNumber("14: dx comes first", () -> studio.paste(0, 101, 0));
        Check.refusesNumber("14: dy comes first", () -> studio.paste(0, 0, -101));
        studio.copy(0);
        Check.refusesNumber("14: layer -1", () -> studio.paste(-1, 0, 0));
        Check.refusesNumber("14: dx -101", () -> studio.paste(0, -101, 0));
        Check.refusesNumber("14: dy 101", () -> studio.paste(0, 0, 101));
        Check.refusesNumber("14: dx least", () -> studio.paste(0, Integer.MIN_VALUE, 0));
        Check.same("14: refused, no step", studio.count(1), 0);
        Check.same("14: the edges are taken", studio.paste(0, -100, 100), 0);
    }

    private static void mirror() {
        TileStudio studio = numbered(3, 2);
        studio.mirror(0, 0);
        Make.checkRow("15: left and right, row 0", studio, 0, 0, 3, 2, 1);
        Make.checkRow("15: left and right, row 1", studio, 0, 1, 13, 12, 11);
        studio.mirror(0, 1);
        Make.checkRow("15: up and down, row 0", studio, 0, 0, 13, 12, 11);
        Make.checkRow("15: up and down, row 1", studio, 0, 1, 3, 2, 1);
        Check.refusesNumber("15: layer 1", () -> studio.mirror(1, 0));
        Check.refusesNumber("15: layer -1", () -> studio.mirror(-1, 0));
        Check.refusesNumber("15: axis 2", () -> studio.mirror(0, 2));
        Check.refusesNumber("15: axis -1", () -> studio.mirror(0, -1));
        Make.checkRow("15: refused", studio, 0, 0, 13, 12, 11);
        TileStudio one = Make.studio(1, 1);
        one.mirror(0, 0);
        Check.same("15: a step, even if nothing changes", one.count(1), 1);
        Check.refusesNumber("15: refused, no step", () -> one.mirror(0, 7));
        Check.same("15: refused, no step", one.count(1), 1);
    }

    private static void mirrorWhereSelected() {
        TileStudio studio = numbered(4, 2);
        studio.select(0, 0, 0, Make.size(1, 2));
        studio.mirror(0, 0);
        Make.checkRow("15: where selected, row 0", studio, 0, 0, 4, 2, 3, 4);
        Make.checkRow("15: where selected, row 1", studio, 0, 1, 14, 12, 13, 14);
        studio.mirror(0, 1);
        Make.checkRow("15: all at once, row 0", studio, 0, 0, 14, 2, 3, 4);
        Make.checkRow("15: all at once, row 1", studio, 0, 1, 4, 12, 13, 14);
    }

    private static void shift() {
        TileStudio studio = numbered(3, 3);
        studio.shift(0, 1, -1);
        Make.checkRow("16: row 0", studio, 0, 0, 0, 11, 12);
        Make.checkRow("16: row 1", studio, 0, 1, 0, 21, 22);
        Make.checkRow("16: row 2", studio, 0, 2, 0, 0, 0);
        TileStudio back = numbered(3, 1);
        back.shift(0, -2, 0);
        Make.checkRow("16: to the left", back, 0, 0, 3, 0, 0);
        TileStudio part = numbered(4, 1);
        part.select(0, 1, 0, Make.size(2, 1));
        part.shift(0, 1, 0);
        Make.checkRow("16: where selected", part, 0, 0, 1, 1, 2, 4);
        TileStudio down = numbered(1, 3);
        down.shift(0, 0, 1);
        Check.same("16: down, 0", down.dot(0, 0, 0, 0), 0);
        Check.same("16: down, 1", down.dot(0, 0, 0, 1), 1);
        Check.same("16: down, 2", down.dot(0, 0, 0, 2), 11);
        TileStudio none = Make.studio(2, 2);
        none.shift(0, 0, 0);
        Check.same("16: a step, even if nothing changes", none.count(1), 1);
    }

    private static void shiftRefuses() {
        TileStudio studio = Make.studio(2, 2);
        studio.fill(0, 7);
        Check.refusesNumber("16: layer 1", () -> studio.shift(1, 0, 0));
        Check.refusesNumber("16: layer -1", () -> studio.shift(-1, 0, 0));
        Check.refusesNumber("16: dx 101", () -> studio.shift(0, 101, 0));
        Check.refusesNumber("16: dx -101", () -> studio.shift(0, -101, 0));
        Check.refusesNumber("16: dy 101", () -> studio.shift(0, 0, 101));
        Check.refusesNumber("16: dy -101", () -> studio.shift(0, 0, -101));
        Check.refusesNumber("16: dy least", () -> studio.shift(0, 0, Integer.MIN_VALUE));
        Check.same("16: refused, no step", studio.count(1), 1);
        Check.same("16: refused", studio.dot(0, 0, 0, 0), 7);
        studio.shift(0, 100, -100);
        Check.same("16: the edges are taken", studio.dot(0, 0, 1, 1), 0);
    }

    private static void blur() {
        TileStudio one = Make.studio(1, 1);
        one.fill(0, 0xFF0904FF);
        one.blur(0, 1);
        // (255 + 4) / 9 = 28, (9 + 4) / 9 = 1, (4 + 4) / 9 = 0.
        Check.sameDot("17: beyond the edge are 0", one.dot(0, 0, 0, 0), 0x1C01001C);
        TileStudio clear = Make.studio(3, 3);
        clear.fill(0, 0x5A000000);
        clear.blur(0, 1);
        Check.sameDot("17: clear dots' bytes count", clear.dot(0, 0, 1, 1), 0x5A000000);
        Check.sameDot("17: an edge", clear.dot(0, 0, 1, 0), 0x3C000000);
        Check.sameDot("17: a corner", clear.dot(0, 0, 0, 0), 0x28000000);
        for (int radius = 1; radius <= 4; radius++) {
            TileStudio studio = Make.studio(12, 12);
            Make.put(studio, 0, 5, 6, 0xF0000000);
            studio.blur(0, radius);
            int parts = (2 * radius + 1) * (2 * radius + 1);
            int due = (0xF0 + parts / 2) / parts << 24;
            Check.sameDot("17: in reach at left and above", studio.dot(0, 0, 5 - radius, 6 - radius), due);
            Check.sameDot("17: in reach at right and below", studio.dot(0, 0, 5 + radius, 6 + radius), due);
            Check.sameDot("17: the middle", studio.dot(0, 0, 5, 6), due);
            Check.sameDot("17: not in reach at left", studio.dot(0, 0, 4 - radius, 6), 0);
            Check.sameDot("17: not in reach at right", studio.dot(0, 0, 6 + radius, 6), 0);
            Check.sameDot("17: not in reach above", studio.dot(0, 0, 5, 5 - radius), 0);
            Check.sameDot("17: not in reach below", studio.dot(0, 0, 5, 7 + radius), 0);
        }
        TileStudio full = Make.studio(9, 9);
        full.fill(0, -1);
        full.blur(0, 4);
        Check.sameDot("17: the greatest sum", full.dot(0, 0, 4, 4), -1);
        Check.sameDot("17: a corner of the greatest", full.dot(0, 0, 8, 8), 0x4F4F4F4F);
    }

    private static void blurWhereSelected() {
        TileStudio studio = Make.studio(4, 1);
        Make.putRow(studio, 0, 0, 90, 90, 90, 90);
        studio.select(0, 1, 0, Make.size(2, 1));
        studio.blur(0, 1);
        // Both have three of 90 in reach, as they were before.
        Make.checkRow("17: where selected, all at once", studio, 0, 0, 90, 30, 30, 90);
        studio.undo();
        studio.select(0, 0, 0, 0);
        int again = studio.count(2);
        studio.blur(0, 1);
        Check.same("17: nothing selected", studio.dot(0, 0, 1, 0), 90);
        Check.same("17: nothing is done again", again, 0);
    }

    private static void blurRefuses() {
        TileStudio studio = Make.studio(2, 2);
        studio.fill(0, 90);
        Check.refusesNumber("17: layer 1", () -> studio.blur(1, 1));
        Check.refusesNumber("17: layer -1", () -> studio.blur(-1, 1));
        Check.refusesNumber("17: radius 0", () -> studio.blur(0, 0));
        Check.refusesNumber("17: radius 5", () -> studio.blur(0, 5));
        Check.refusesNumber("17: radius -1", () -> studio.blur(0, -1));
        Check.same("17: refused, no step", studio.count(1), 1);
        Check.same("17: refused", studio.dot(0, 0, 0, 0), 90);
        studio.select(0, 0, 0, 0);
        studio.blur(0, 1);
        Check.same("17: a step, even if nothing changes", studio.count(1), 3);
    }
}
