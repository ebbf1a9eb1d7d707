import java.util.List;
import java.util.NoSuchElementException;
import java.util.function.Consumer;

/** The sentences of the promises 18 to 25 that name an edge, and those on steps, each with a test of its own. */
public final class LookEdgeTest {
    /** Every call that is a step, so that it changes nothing of a picture 2 by 2 with two layers of dots 0. */
    private static final List<Consumer<TileStudio>> STEPS = List.of(
            s -> s.move(1, 1), s -> s.mode(0, 0, 255, true), s -> s.select(1, 0, 0, 0), s -> s.fill(0, 0),
            s -> s.gradient(0, 0, 0, 0), s -> s.stroke(0, Make.at(50, 50), Make.at(50, 50)),
            s -> s.flood(0, 0, 0, 0, 0), s -> s.paste(0, 100, 0), s -> s.mirror(0, 0), s -> s.shift(0, 0, 0),
            s -> s.blur(0, 1));

    /** Calls that are no step. */
    private static final List<Consumer<TileStudio>> NO_STEPS = List.of(
            s -> s.brush(5, 5), s -> s.copy(0), s -> s.save(-1), s -> s.save(0), s -> s.dot(0, 3, 0, 0),
            s -> s.view(3, 0, 0), s -> s.histogram(0, 0, 0), s -> s.count(1), s -> s.count(9));

    public static void main(String[] args) {
        stepsThatChangeNothing();
        whatIsNoStep();
        layersAreSteps();
        sixStepsBack();
        againUntilAnotherStep();
        noStepThere();
        stepsOfAFullHistory();
        brushFileAndCopyAreNoPartOfSteps();
        pagesAtMost();
        pagesOfNothing();
        savedAnew();
        saveLeavesPictureAndSteps();
        openWithoutAFile();
        openBringsSelectionAndModes();
        openedTwice();
        dotsAtTheLastPlaces();
        histogramValues();
        histogramOfNoneSelected();
        countEdges();
        Check.finish();
    }

    private static TileStudio twoLayers() {
        TileStudio studio = Make.studio(2, 2);
        studio.copy(0);
        studio.layer(1);
        return studio;
    }

    // Terms: "is a STEP, if it is not refused, even if nothing changes by it"
    private static void stepsThatChangeNothing() {
        for (int step = 0; step < STEPS.size(); step++) {
            TileStudio studio = twoLayers();
            STEPS.get(step).accept(studio);
            Check.same("18: a step, though nothing changes: " + step, studio.count(1), 2);
            Check.same("18: nothing changes: " + step, studio.count(3), 0);
            Check.holds("18: it is taken back: " + step, studio.undo());
            Check.same("18: one is left: " + step, studio.count(1), 1);
            Check.holds("19: it is done again: " + step, studio.redo());
            Check.same("19: two again: " + step, studio.count(1), 2);
        }
    }

    // 8, 13: "(no step)"; 20: "The picture and its steps stay."; and looking is no step.
    private static void whatIsNoStep() {
        for (int call = 0; call < NO_STEPS.size(); call++) {
            TileStudio studio = twoLayers();
            studio.fill(1, 7);
            studio.undo();
            NO_STEPS.get(call).accept(studio);
            Check.same("18: no step: " + call, studio.count(1), 1);
            Check.same("19: no step since: " + call, studio.count(2), 1);
            Check.holds("19: done again: " + call, studio.redo());
            Check.same("19: done again: " + call, studio.dot(1, 0, 0, 0), 7);
        }
    }

    // Terms: "each call that changes layers, their order, modes or the selection, is a STEP"
    private static void layersAreSteps() {
        TileStudio studio = Make.studio(1, 1);
        studio.layer(0);
        studio.layer(0);
        studio.drop(0);
        studio.move(0, 1);
        studio.mode(0, 1, 2, false);
        studio.select(0, 0, 0, 0);
        Check.same("18: six steps", studio.count(1), 6);
        int[] layers = {2, 2, 2, 3, 2, 1};
        for (int back = 0; back < 6; back++) {
            Check.holds("18: back", studio.undo());
            Check.same("18: layers after " + (back + 1) + " back", studio.count(0), layers[back]);
            Check.same("18: selected after " + (back + 1) + " back", studio.count(4), 1);
        }
        for (int again = 0; again < 6; again++) {
            Check.holds("19: again", studio.redo());
        }
        Check.same("19: the layers again", studio.count(0), 2);
        Check.same("19: the selection again", studio.count(4), 0);
    }

    // Terms: "at most 6 can be taken back (the oldest ones are forgotten)"
    private static void sixStepsBack() {
        for (int steps = 1; steps <= 14; steps++) {
            TileStudio studio = Make.studio(1, 1);
            for (int dot = 1; dot <= steps; dot++) {
                studio.fill(0, dot);
            }
            int kept = Math.min(steps, 6);
            Check.same("18: kept of " + steps, studio.count(1), kept);
            for (int back = 1; back <= kept; back++) {
                Check.holds("18: back " + back + " of " + steps, studio.undo());
                Check.same("18: the dot after " + back + " of " + steps, studio.dot(0, 0, 0, 0), steps - back);
                Check.same("25: again after " + back + " of " + steps, studio.count(2), back);
            }
            Check.holds("18: no more of " + steps, !studio.undo());
            Check.same("18: the oldest dot of " + steps, studio.dot(0, 0, 0, 0), steps - kept);
            for (int again = 1; again <= kept; again++) {
                Check.holds("19: again " + again + " of " + steps, studio.redo());
                Check.same("19: the dot", studio.dot(0, 0, 0, 0), steps - kept + again);
            }
            Check.holds("19: no more of " + steps, !studio.redo());
        }
    }

    // Terms: "done AGAIN as long as no other step was done since", even one by which nothing changes.
    private static void againUntilAnotherStep() {
        for (int step = 0; step < STEPS.size(); step++) {
            TileStudio studio = twoLayers();
            studio.fill(1, 7);
            studio.fill(1, 8);
            studio.undo();
            studio.undo();
            Check.same("19: two again", studio.count(2), 2);
            STEPS.get(step).accept(studio);
            Check.same("19: none after step " + step, studio.count(2), 0);
            Check.holds("19: redo after step " + step, !studio.redo());
            Check.same("19: the dot after step " + step, studio.dot(1, 0, 0, 0), 0);
            Check.same("18: back after step " + step, studio.count(1), 2);
        }
        TileStudio refused = twoLayers();
        refused.fill(1, 7);
        refused.undo();
        Check.refusesNumber("19: a refused call", () -> refused.fill(2, 8));
        Check.holds("19: is no other step", refused.redo());
    }

    // 18, 19: "false if there is none."
    private static void noStepThere() {
        TileStudio none = new TileStudio();
        Check.holds("18: without a picture", !none.undo());
        Check.holds("19: without a picture", !none.redo());
        Check.same("18: still no picture", none.count(0), 0);
        TileStudio studio = Make.studio(1, 1);
        Check.holds("18: of a new picture", !studio.undo());
        Check.holds("19: of a new picture", !studio.redo());
        Check.same("18: it stays", studio.count(0), 1);
        studio.fill(0, 1);
        Check.holds("19: nothing was taken back", !studio.redo());
        Check.same("19: the dot stays", studio.dot(0, 0, 0, 0), 1);
        studio.save(-1);
        studio.open();
        Check.holds("18: of an opened picture", !studio.undo());
        Check.holds("19: of an opened picture", !studio.redo());
        Check.same("18: the opened one stays", studio.dot(0, 0, 0, 0), 1);
    }

    // Back and forth with seven steps and more, of which the oldest are forgotten.
    private static void stepsOfAFullHistory() {
        TileStudio studio = Make.studio(1, 1);
        for (int dot = 1; dot <= 6; dot++) {
            studio.fill(0, dot);
        }
        for (int back = 0; back < 6; back++) {
            studio.undo();
        }
        studio.fill(0, 10);
        Check.same("18: one step after all were taken back", studio.count(1), 1);
        Check.same("19: none again", studio.count(2), 0);
        studio.undo();
        Check.same("18: to the beginning", studio.dot(0, 0, 0, 0), 0);
        studio.redo();
        for (int dot = 11; dot <= 16; dot++) {
            studio.fill(0, dot);
        }
        studio.undo();
        studio.undo();
        studio.fill(0, 20);
        Check.same("18: five", studio.count(1), 5);
        studio.fill(0, 21);
        studio.fill(0, 22);
        Check.same("18: six at most", studio.count(1), 6);
        int[] due = {21, 20, 14, 13, 12, 11};
        for (int dot : due) {
            studio.undo();
            Check.same("18: the dot before", studio.dot(0, 0, 0, 0), dot);
        }
        Check.holds("18: no more", !studio.undo());
    }

    // 8, 13, 20: brush, copy and file are no steps, so that taking steps back leaves them.
    private static void brushFileAndCopyAreNoPartOfSteps() {
        TileStudio studio = Make.studio(2, 1);
        studio.fill(0, 0x010203FF);
        studio.brush(0x040506FF, 0);
        studio.copy(0);
        studio.save(-1);
        studio.undo();
        Check.same("18: the dot is taken back", studio.dot(0, 0, 0, 0), 0);
        studio.stroke(0, 0, 0);
        Make.checkRow("18: the brush stays", studio, 0, 0, 0x040506FF, 0);
        Check.same("18: what was copied stays", studio.paste(0, 1, 0), 1);
        Make.checkRow("18: what was copied stays", studio, 0, 0, 0x040506FF, 0x010203FF);
        studio.open();
        Make.checkRow("18: the file stays", studio, 0, 0, 0x010203FF, 0x010203FF);
        studio.stroke(0, 0, 0);
        Make.checkRow("21: opening leaves the brush", studio, 0, 0, 0x040506FF, 0x010203FF);
        Check.same("21: opening leaves what was copied", studio.paste(0, -1, 0), 1);
        Make.checkRow("21: opening leaves what was copied", studio, 0, 0, 0x010203FF, 0x010203FF);
    }

    // 20: "writing at most so many pages (any number of them, if most is below 0): how many were written"
    private static void pagesAtMost() {
        TileStudio studio = Make.studio(24, 24);
        studio.layer(1);
        studio.layer(2);
        for (int layer = 0; layer < 3; layer++) {
            studio.fill(layer, 1);
        }
        for (int most = 0; most <= 27; most++) {
            Check.same("20: at most " + most, studio.save(most), most);
            Check.refuses("20: no file of " + most, NoSuchElementException.class, studio::open);
        }
        Check.same("20: just enough", studio.save(28), 28);
        Check.same("20: more than enough", studio.save(29), 28);
        Check.same("20: the greatest number", studio.save(Integer.MAX_VALUE), 28);
        Check.same("20: below 0", studio.save(-1), 28);
        Check.same("20: the least number", studio.save(Integer.MIN_VALUE), 28);
        studio.open();
        Check.same("21: all tiles", studio.count(3), 27);
    }

    // 20: "a page for each tile that is not empty, layer by layer, and then a closing page"
    private static void pagesOfNothing() {
        TileStudio studio = Make.studio(24, 24);
        studio.layer(1);
        studio.layer(2);
        Check.same("20: no page at all", studio.save(0), 0);
        Check.refuses("20: no file without the closing page", NoSuchElementException.class, studio::open);
        Check.same("20: the closing page alone", studio.save(1), 1);
        studio.make(1, 1);
        studio.open();
        Check.same("21: a picture of nothing", studio.count(5), 242400);
        Check.same("21: with three layers", studio.count(0), 3);
        Make.put(studio, 1, 8, 8, 0x01000000);
        studio.mode(1, 0, 0, false);
        Check.same("20: a tile of a layer that is not seen, of a clear dot", studio.save(-1), 2);
    }

    // 20: each saving begins anew; pages of one that was not whole do not help the next one.
    private static void savedAnew() {
        TileStudio studio = Make.studio(16, 1);
        studio.fill(0, 1);
        studio.save(2);
        Check.same("20: one page is not the rest", studio.save(1), 1);
        Check.refuses("20: two parts are no file", NoSuchElementException.class, studio::open);
        studio.save(3);
        studio.make(1, 1);
        studio.fill(0, 9);
        Check.same("20: of another picture", studio.save(1), 1);
        studio.open();
        Check.same("20: the file is the one before", studio.count(5), 160100);
        studio.make(1, 1);
        studio.fill(0, 9);
        Check.same("20: whole", studio.save(2), 2);
        studio.make(2, 2);
        studio.open();
        Check.same("20: the other picture", studio.count(5), 10100);
        Check.same("20: with its dot", studio.dot(0, 0, 0, 0), 9);
    }

    // 20: "The picture and its steps stay."
    private static void saveLeavesPictureAndSteps() {
        for (int most : new int[] {-1, 0, 1, 2}) {
            TileStudio studio = Make.studio(2, 1);
            studio.fill(0, 1);
            studio.fill(0, 2);
            studio.undo();
            String before = Look.at(studio);
            studio.save(most);
            Check.sameText("20: after save(" + most + ")", Look.at(studio), before);
            Check.holds("20: a step again", studio.redo());
            Check.same("20: the step's dot", studio.dot(0, 0, 1, 0), 2);
        }
    }

    // 21: "NoSuchElementException: there is no file."
    private static void openWithoutAFile() {
        TileStudio none = new TileStudio();
        Check.refuses("21: without a picture", NoSuchElementException.class, none::open);
        Check.same("21: still without a picture", none.count(0), 0);
        TileStudio studio = Make.studio(2, 1);
        studio.fill(0, 1);
        studio.fill(0, 2);
        studio.undo();
        Check.refuses("21: with a picture", NoSuchElementException.class, studio::open);
        Check.same("21: refused, the dot", studio.dot(0, 0, 0, 0), 1);
        Check.same("21: refused, steps back", studio.count(1), 1);
        Check.same("21: refused, steps again", studio.count(2), 1);
    }

    // 21: "The picture of the file is there, with its layers, modes and selection; there are no steps."
    private static void openBringsSelectionAndModes() {
        TileStudio studio = Make.studio(2, 1);
        studio.fill(0, 0x646464FF);
        studio.layer(1);
        studio.fill(1, 0x0A0A0AFF);
        studio.mode(1, 5, 255, true);
        studio.layer(2);
        studio.fill(2, -1);
        studio.mode(2, 0, 255, false);
        studio.select(0, 0, 0, 0);
        studio.save(-1);
        studio.drop(2);
        studio.mode(1, 0, 9, true);
        Make.selectAll(studio);
        studio.undo();
        studio.open();
        Check.same("21: three layers", studio.count(0), 3);
        Check.same("21: no steps back", studio.count(1), 0);
        Check.same("21: no steps again", studio.count(2), 0);
        Check.same("21: nothing is selected", studio.count(4), 0);
        Check.sameDot("21: modes, opacity and visibility", studio.view(0, 0, 0), 0x6E6E6EFF);
        studio.fill(0, 5);
        Check.sameDot("21: nothing is selected, nothing is filled", studio.dot(0, 0, 0, 0), 0x646464FF);
        Check.same("21: a step since", studio.count(1), 1);
    }

    // Terms: "the file is the picture as it was", however often it is opened and painted on.
    private static void openedTwice() {
        TileStudio studio = Make.studio(1, 1);
        studio.fill(0, 1);
        studio.save(-1);
        for (int time = 0; time < 3; time++) {
            studio.open();
            Check.same("21: opened " + time, studio.dot(0, 0, 0, 0), 1);
            studio.fill(0, 2);
            studio.layer(0);
            studio.select(0, 0, 0, 0);
        }
        studio.open();
        Check.same("21: what was painted since is not in the file", studio.dot(0, 0, 0, 0), 1);
        Check.same("21: nor a layer", studio.count(0), 1);
        Check.same("21: nor a selection", studio.count(4), 1);
    }

    // 22, 23: "IndexOutOfBoundsException: no such place at this level."
    private static void dotsAtTheLastPlaces() {
        TileStudio studio = Make.studio(24, 17);
        studio.fill(0, 0x102030FF);
        int[][] sides = {{24, 17}, {12, 9}, {6, 5}, {3, 3}};
        // Beyond the lower edge: 255; (510 + 2) / 4; (256 + 2) / 4; (128 + 2) / 4.
        int[] covers = {255, 128, 64, 32};
        for (int level = 0; level <= 3; level++) {
            int at = level;
            int wide = sides[level][0];
            int high = sides[level][1];
            int due = 0x10203000 | covers[level];
            Check.sameDot("22: last dot at level " + at, studio.dot(0, at, wide - 1, high - 1), due);
            Check.sameDot("23: last of the view at level " + at, studio.view(at, wide - 1, high - 1), due);
            Check.sameDot("22: first dot at level " + at, studio.dot(0, at, 0, 0), 0x102030FF);
            int[][] beyond = {{-1, 0}, {0, -1}, {wide, 0}, {0, high}};
            for (int[] place : beyond) {
                String what = " " + place[0] + ", " + place[1] + " at level " + at;
                Check.refuses("22: dot" + what, IndexOutOfBoundsException.class,
                        () -> studio.dot(0, at, place[0], place[1]));
                Check.refuses("23: view" + what, IndexOutOfBoundsException.class,
                        () -> studio.view(at, place[0], place[1]));
            }
        }
        for (int wrong : new int[] {-1, 4}) {
            Check.refusesNumber("22: level " + wrong, () -> studio.dot(0, wrong, 0, 0));
            Check.refusesNumber("23: level " + wrong, () -> studio.view(wrong, 0, 0));
        }
    }

    // 24: "has a value (any int; 0 if no byte can have it)"
    private static void histogramValues() {
        TileStudio studio = Make.studio(24, 24);
        studio.fill(0, 0xFF00FF00);
        for (int channel = 0; channel <= 3; channel++) {
            int whole = channel % 2 == 0 ? 576 : 0;
            Check.same("24: 255 in channel " + channel, studio.histogram(0, channel, 255), whole);
            Check.same("24: 0 in channel " + channel, studio.histogram(0, channel, 0), 576 - whole);
            int[] noBytes = {-1, 256, -256, 511, 65536, Integer.MIN_VALUE, Integer.MAX_VALUE};
            for (int value : noBytes) {
                Check.same("24: " + value + " is no byte", studio.histogram(0, channel, value), 0);
            }
        }
        for (int wrong : new int[] {-1, 4}) {
            Check.refusesNumber("24: channel " + wrong, () -> studio.histogram(0, wrong, 0));
            Check.refusesNumber("24: channel " + wrong + ", no byte", () -> studio.histogram(0, wrong, 256));
        }
    }

    // 24: "How many selected places"
    private static void histogramOfNoneSelected() {
        TileStudio studio = Make.studio(3, 3);
        studio.fill(0, 0x07070707);
        studio.select(0, 0, 0, 0);
        for (int channel = 0; channel <= 3; channel++) {
            Check.same("24: none selected", studio.histogram(0, channel, 7), 0);
        }
        Make.selectOne(studio, 2, 2);
        Check.same("24: one selected", studio.histogram(0, 3, 7), 1);
        Check.same("24: with another value", studio.histogram(0, 3, 0), 0);
    }

    // 25: "10000 * width + 100 * height (all 0 without a picture); -1 for another what"
    private static void countEdges() {
        for (TileStudio studio : new TileStudio[] {new TileStudio(), Make.studio(24, 24)}) {
            for (int what : new int[] {-1, 6, 7, Integer.MIN_VALUE, Integer.MAX_VALUE}) {
                Check.same("25: count(" + what + ")", studio.count(what), -1);
            }
        }
        Check.same("25: the least size", Make.studio(1, 1).count(5), 10100);
        Check.same("25: the greatest size", Make.studio(24, 24).count(5), 242400);
        Check.same("25: wide", Make.studio(24, 1).count(5), 240100);
        Check.same("25: high", Make.studio(1, 24).count(5), 12400);
        TileStudio full = Make.studio(24, 24);
        full.layer(1);
        full.layer(1);
        Check.same("25: three layers", full.count(0), 3);
        Check.same("25: no tile", full.count(3), 0);
        for (int layer = 0; layer < 3; layer++) {
            full.fill(layer, 1);
            Check.same("25: tiles of " + (layer + 1) + " layers", full.count(3), 9 * (layer + 1));
        }
        Check.same("25: all selected", full.count(4), 576);
        full.select(0, 0, 0, 0);
        Check.same("25: none selected", full.count(4), 0);
        Check.same("25: steps back", full.count(1), 6);
        Check.same("25: steps again", full.count(2), 0);
    }
}
