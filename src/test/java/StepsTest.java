/** Promises 18 and 19: undo, redo. */
public final class StepsTest {
    public static void main(String[] args) {
        backAndAgain();
        sixAtMost();
        anotherStepForgets();
        whatIsNoStep();
        everyStep();
        layersAndModes();
        Check.finish();
    }

    private static void backAndAgain() {
        TileStudio studio = Make.studio(1, 1);
        Check.holds("18: none", !studio.undo());
        Check.holds("19: none", !studio.redo());
        studio.fill(0, 1);
        studio.fill(0, 2);
        Check.holds("19: none was taken back", !studio.redo());
        Check.holds("18: the second", studio.undo());
        Check.same("18: the second", studio.dot(0, 0, 0, 0), 1);
        Check.holds("18: the first", studio.undo());
        Check.same("18: the first", studio.dot(0, 0, 0, 0), 0);
        Check.holds("18: none left", !studio.undo());
        Check.same("18: none left", studio.dot(0, 0, 0, 0), 0);
        Check.same("18: two can be done again", studio.count(2), 2);
        Check.holds("19: the first", studio.redo());
        Check.same("19: the first", studio.dot(0, 0, 0, 0), 1);
        Check.same("19: one can be taken back", studio.count(1), 1);
        Check.holds("19: the second", studio.redo());
        Check.same("19: the second", studio.dot(0, 0, 0, 0), 2);
        Check.holds("19: none left", !studio.redo());
        Check.same("19: none left", studio.dot(0, 0, 0, 0), 2);
    }

    private static void sixAtMost() {
        TileStudio studio = Make.studio(1, 1);
        for (int dot = 1; dot <= 9; dot++) {
            studio.fill(0, dot);
            Check.same("18: steps kept", studio.count(1), Math.min(dot, 6));
        }
        for (int dot = 8; dot >= 3; dot--) {
            Check.holds("18: back to " + dot, studio.undo());
            Check.same("18: back to " + dot, studio.dot(0, 0, 0, 0), dot);
        }
        Check.holds("18: the oldest ones are forgotten", !studio.undo());
        Check.same("18: the oldest ones are forgotten", studio.dot(0, 0, 0, 0), 3);
        for (int dot = 4; dot <= 9; dot++) {
            Check.holds("19: again to " + dot, studio.redo());
            Check.same("19: again to " + dot, studio.dot(0, 0, 0, 0), dot);
        }
        Check.holds("19: no more than were taken back", !studio.redo());
    }

    private static void anotherStepForgets() {
        TileStudio studio = Make.studio(1, 1);
        for (int dot = 1; dot <= 6; dot++) {
            studio.fill(0, dot);
        }
        studio.undo();
        studio.undo();
        studio.fill(0, 40);
        Check.same("19: another step was done", studio.count(2), 0);
        Check.holds("19: another step was done", !studio.redo());
        Check.same("18: five then", studio.count(1), 5);
        studio.undo();
        Check.same("18: to what was before it", studio.dot(0, 0, 0, 0), 4);
        studio.redo();
        Check.same("19: the other one again", studio.dot(0, 0, 0, 0), 40);
    }

    private static void whatIsNoStep() {
        TileStudio studio = Make.studio(2, 2);
        studio.fill(0, 1);
        studio.fill(0, 2);
        studio.undo();
        studio.brush(5, 5);
        studio.copy(0);
        studio.save(-1);
        studio.save(0);
        studio.dot(0, 0, 0, 0);
        studio.view(0, 0, 0);
        studio.histogram(0, 0, 0);
        Check.refusesNumber("18: what is refused is no step", () -> studio.fill(1, 0));
        Check.refusesNumber("18: nor is that", () -> studio.make(0, 0));
        Check.same("18: one back", studio.count(1), 1);
        Check.same("19: one again", studio.count(2), 1);
        Check.holds("19: done again", studio.redo());
        Check.same("19: done again", studio.dot(0, 0, 1, 1), 2);
    }

    private static void everyStep() {
        TileStudio studio = Make.studio(2, 2);
        studio.copy(0);
        Runnable[] steps = {
            () -> studio.layer(0), () -> studio.drop(0), () -> studio.move(0, 0),
            () -> studio.mode(0, 0, 255, true), () -> studio.select(1, 0, 0, 0), () -> studio.fill(0, 0),
            () -> studio.gradient(0, 0, 0, 0), () -> studio.stroke(0, 0, 0), () -> studio.flood(0, 0, 0, 0, 0),
            () -> studio.paste(0, 0, 0), () -> studio.mirror(0, 0), () -> studio.shift(0, 0, 0),
            () -> studio.blur(0, 1)};
        for (int i = 0; i < steps.length; i++) {
            steps[i].run();
            Check.same("18: step " + i, studio.count(1), Math.min(6, i + 1));
            studio.undo();
            studio.redo();
        }
    }

    private static void layersAndModes() {
        TileStudio studio = Make.studio(1, 1);
        studio.fill(0, 0x0A0A0AFF);
        studio.layer(1);
        studio.fill(1, 0x141414FF);
        studio.mode(1, 5, 255, true);
        studio.move(1, 0);
        studio.drop(1);
        Check.sameDot("18: at the end", studio.view(0, 0, 0), 0x141414FF);
        studio.undo();
        Check.same("18: the layer is there again", studio.count(0), 2);
        Check.sameDot("18: at the top", studio.dot(1, 0, 0, 0), 0x0A0A0AFF);
        Check.sameDot("18: seen alone", studio.view(0, 0, 0), 0x0A0A0AFF);
        studio.undo();
        Check.sameDot("18: the order", studio.dot(1, 0, 0, 0), 0x141414FF);
        Check.sameDot("18: added", studio.view(0, 0, 0), 0x1E1E1EFF);
        studio.undo();
        Check.sameDot("18: the mode", studio.view(0, 0, 0), 0x141414FF);
        studio.undo();
        Check.sameDot("18: the dots", studio.view(0, 0, 0), 0x0A0A0AFF);
        studio.undo();
        Check.same("18: one layer", studio.count(0), 1);
        Check.same("19: five again", studio.count(2), 5);
        for (int i = 0; i < 5; i++) {
            studio.redo();
        }
        Check.same("19: dropped again", studio.count(0), 1);
        Check.sameDot("19: at the end again", studio.view(0, 0, 0), 0x141414FF);
    }
}
