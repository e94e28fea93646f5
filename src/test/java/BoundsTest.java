import java.util.function.Consumer;
import java.util.function.Supplier;

/**
 * Each "Throws .." of the document: just inside and just outside of each bound, what a refused call
 * leaves unchanged, and which exception comes first where two apply.
 */
public final class BoundsTest {
    private static final Class<IllegalArgumentException> ILLEGAL = IllegalArgumentException.class;
    private static final Class<IndexOutOfBoundsException> OUT = IndexOutOfBoundsException.class;

    // Beside the ends of an int, numbers that fall on the map where a product or a shift wraps around.
    private static final int[] FAR = {Integer.MIN_VALUE, Integer.MIN_VALUE + 1, -64, -32, -6, 6, 31, 32, 33,
        64, 256, 65536, 715827883, 858993460, 1 << 30, Integer.MAX_VALUE - 1, Integer.MAX_VALUE};

    private static final Check CHECK = new Check();

    private interface CellCall {
        void on(ColourTide tide, int x, int y);
    }

    private interface ColourCall {
        void with(ColourTide tide, int number);
    }

    private interface TwoNumbers {
        void on(ColourTide tide, int first, int second);
    }

    private interface Due {
        Class<? extends Exception> of(int first, int second);
    }

    public static void main(String[] args) {
        newMapOfEachSize();
        eachCellOfEachMap();
        cellsBesideTheFirstMap();
        cellsThatAMapHasLost();
        paintWithEachColour();
        neighboursWithEachColour();
        callsWithAColourOrBare();
        callsWithAColour();
        needs();
        wavesToPass();
        cellsAfterWavesAndColour();
        bestCellColourAndWaves();
        severalReasonsOfOneKind();
        refusedCallsLeaveAllAnswers();
        askingChangesNothing();
        CHECK.end();
    }

    // ---- what is called, and with what

    /** A map of this size with all colours, bare and stubborn cells, and one wave behind it. */
    private static ColourTide motley(int w, int h) {
        ColourTide tide = new ColourTide();
        tide.newMap(w, h);
        paintMotley(tide);
        return tide;
    }

    private static void paintMotley(ColourTide tide) {
        int[] colours = {1, 2, 1, 0, 3, 3, 1, 4, 2, 2, 0, 1};
        for (int y = 0; y < tide.height(); y++) {
            for (int x = 0; x < tide.width(); x++) {
                tide.paint(x, y, colours[(3 * x + 5 * y) % colours.length]);
                if ((x + 2 * y) % 4 == 3) {
                    tide.turnStubborn(x, y);
                }
            }
        }
        tide.pass(1);
    }

    private static int[] from(int least, int most) {
        int near = most - least + 1;
        int[] numbers = new int[near + FAR.length];
        for (int i = 0; i < near; i++) {
            numbers[i] = least + i;
        }
        System.arraycopy(FAR, 0, numbers, near, FAR.length);
        return numbers;
    }

    private static boolean within(int number, int least, int most) {
        return least <= number && number <= most;
    }

    /** Each number just beside least to most, and the far ones, is refused; each other one is taken. */
    private static void bounds(String what, int least, int most, Class<? extends Exception> kind, ColourCall call) {
        for (int number : from(least - 3, most + 3)) {
            ColourTide tide = motley(4, 3);
            judge(what + " of " + number, tide, within(number, least, most) ? null : kind,
                    () -> call.with(tide, number));
        }
    }

    private static void judge(String what, ColourTide tide, Class<? extends Exception> kind, Runnable call) {
        if (kind == null) {
            CHECK.takes(what, call);
        } else {
            CHECK.refuses(what, tide, kind, call);
        }
    }

    // ---- "if w or h is not 2 to 5"

    private static void newMapOfEachSize() {
        for (int w : from(-3, 9)) {
            for (int h : from(-3, 9)) {
                ColourTide tide = motley(3, 4);
                boolean both = within(w, 2, 5) && within(h, 2, 5);
                judge("newMap(" + w + ", " + h + ")", tide, both ? null : ILLEGAL, () -> tide.newMap(w, h));
                CHECK.same("width() behind newMap(" + w + ", " + h + ")", tide.width(), both ? w : 3);
                CHECK.same("height() behind newMap(" + w + ", " + h + ")", tide.height(), both ? h : 4);
            }
        }
    }

    // ---- "if there is no such cell"

    private static void eachCellOfEachMap() {
        for (int w = 2; w <= 5; w++) {
            for (int h = 2; h <= 5; h++) {
                int width = w;
                int height = h;
                cellsOfAMap(() -> motley(width, height));
            }
        }
    }

    private static void cellsBesideTheFirstMap() {
        cellsOfAMap(() -> {
            ColourTide tide = new ColourTide();
            paintMotley(tide);
            return tide;
        });
    }

    private static void cellsThatAMapHasLost() {
        cellsOfAMap(() -> {
            ColourTide tide = motley(5, 5);
            tide.newMap(3, 2);
            paintMotley(tide);
            return tide;
        });
    }

    private static void cellsOfAMap(Supplier<ColourTide> maps) {
        cells("paint", maps, (t, x, y) -> t.paint(x, y, 4));
        cells("paint bare", maps, (t, x, y) -> t.paint(x, y, 0));
        cells("turnStubborn", maps, ColourTide::turnStubborn);
        cells("colourAt", maps, ColourTide::colourAt);
        cells("isStubborn", maps, ColourTide::isStubborn);
        cells("neighboursWith", maps, (t, x, y) -> t.neighboursWith(x, y, 0));
        cells("nextColour", maps, ColourTide::nextColour);
        cells("regionSize", maps, ColourTide::regionSize);
    }

    private static void cells(String what, Supplier<ColourTide> maps, CellCall call) {
        for (int x : from(-2, 7)) {
            // Another map for each column, so that none is used for more than 512 calls.
            ColourTide tide = maps.get();
            int w = tide.width();
            int h = tide.height();
            for (int y : from(-2, 7)) {
                boolean there = within(x, 0, w - 1) && within(y, 0, h - 1);
                judge(what + " of (" + x + ", " + y + ") on " + w + " by " + h, tide, there ? null : OUT,
                        () -> call.on(tide, x, y));
            }
        }
    }

    // ---- "or colour is not 0 to 4", "if colour is not 0 to 4", "if colour is not 1 to 4"

    private static void paintWithEachColour() {
        bounds("paint with a colour", 0, 4, OUT, (t, colour) -> t.paint(3, 2, colour));
    }

    private static void neighboursWithEachColour() {
        bounds("neighboursWith a colour", 0, 4, OUT, (t, colour) -> t.neighboursWith(3, 2, colour));
    }

    private static void callsWithAColourOrBare() {
        bounds("cellsOf", 0, 4, OUT, ColourTide::cellsOf);
        bounds("share", 0, 4, OUT, ColourTide::share);
        bounds("cellsAfter a wave", 0, 4, OUT, (t, colour) -> t.cellsAfter(1, colour));
        bounds("cellsAfter 40 waves", 0, 4, OUT, (t, colour) -> t.cellsAfter(40, colour));
    }

    private static void callsWithAColour() {
        bounds("regionsOf", 1, 4, OUT, ColourTide::regionsOf);
        bounds("greatestRegion", 1, 4, OUT, ColourTide::greatestRegion);
        bounds("wins", 1, 4, OUT, ColourTide::wins);
        bounds("fewestSeeds", 1, 4, OUT, ColourTide::fewestSeeds);
        bounds("bestCell a wave on", 1, 4, OUT, (t, colour) -> t.bestCell(colour, 1));
        bounds("bestCell 24 waves on", 1, 4, OUT, (t, colour) -> t.bestCell(colour, 24));
    }

    // ---- "if need is not 1 to 4", "if waves is not 1 to 40", "if waves is not 1 to 24"

    private static void needs() {
        bounds("setNeed", 1, 4, ILLEGAL, ColourTide::setNeed);
        for (int need : from(-3, 8)) {
            ColourTide tide = new ColourTide();
            tide.setNeed(3);
            judge("setNeed(" + need + ")", tide, within(need, 1, 4) ? null : ILLEGAL, () -> tide.setNeed(need));
            CHECK.same("need() behind setNeed(" + need + ")", tide.need(), within(need, 1, 4) ? need : 3);
        }
    }

    private static void wavesToPass() {
        bounds("pass", 1, 40, ILLEGAL, ColourTide::pass);
        for (int waves : from(-3, 44)) {
            ColourTide tide = new ColourTide();
            tide.pass(7);
            judge("pass(" + waves + ")", tide, within(waves, 1, 40) ? null : ILLEGAL, () -> tide.pass(waves));
            CHECK.same("waves() behind pass(" + waves + ")", tide.waves(), within(waves, 1, 40) ? 7 + waves : 7);
        }
    }

    // ---- "If several exceptions apply, the one that is named first is thrown."

    private static void cellsAfterWavesAndColour() {
        bounds("cellsAfter waves, of bare cells", 1, 40, ILLEGAL, (t, waves) -> t.cellsAfter(waves, 0));
        bounds("cellsAfter waves, of colour 4", 1, 40, ILLEGAL, (t, waves) -> t.cellsAfter(waves, 4));
        pairs("cellsAfter", from(-1, 42), from(-2, 6), (t, waves, colour) -> t.cellsAfter(waves, colour),
                (waves, colour) -> !within(waves, 1, 40) ? ILLEGAL : !within(colour, 0, 4) ? OUT : null);
    }

    private static void bestCellColourAndWaves() {
        bounds("bestCell waves on, colour 1", 1, 24, ILLEGAL, (t, waves) -> t.bestCell(1, waves));
        bounds("bestCell waves on, colour 4", 1, 24, ILLEGAL, (t, waves) -> t.bestCell(4, waves));
        pairs("bestCell", from(-2, 6), from(-1, 26), (t, colour, waves) -> t.bestCell(colour, waves),
                (colour, waves) -> !within(colour, 1, 4) ? OUT : !within(waves, 1, 24) ? ILLEGAL : null);
    }

    private static void pairs(String what, int[] firsts, int[] seconds, TwoNumbers call, Due due) {
        for (int first : firsts) {
            ColourTide tide = motley(4, 3);
            for (int second : seconds) {
                judge(what + "(" + first + ", " + second + ")", tide, due.of(first, second),
                        () -> call.on(tide, first, second));
            }
        }
    }

    private static void severalReasonsOfOneKind() {
        ColourTide tide = motley(5, 2);
        CHECK.refuses("paint(-1, 0, 5)", tide, OUT, () -> tide.paint(-1, 0, 5));
        CHECK.refuses("paint(5, 2, -1)", tide, OUT, () -> tide.paint(5, 2, -1));
        CHECK.refuses("neighboursWith(0, 2, 5)", tide, OUT, () -> tide.neighboursWith(0, 2, 5));
        CHECK.refuses("neighboursWith(5, 0, -1)", tide, OUT, () -> tide.neighboursWith(5, 0, -1));
        CHECK.refuses("newMap(1, 6)", tide, ILLEGAL, () -> tide.newMap(1, 6));
        CHECK.refuses("newMap(6, 1)", tide, ILLEGAL, () -> tide.newMap(6, 1));
    }

    // ---- "A method that throws an exception changes nothing."

    private static void refusedCallsLeaveAllAnswers() {
        leaves("newMap", ILLEGAL, t -> t.newMap(5, 1), t -> t.newMap(6, 4));
        leaves("paint", OUT, t -> t.paint(0, 0, 5), t -> t.paint(5, 0, 1));
        leaves("turnStubborn", OUT, t -> t.turnStubborn(0, 4), t -> t.turnStubborn(-1, 1));
        leaves("setNeed", ILLEGAL, t -> t.setNeed(0), t -> t.setNeed(5));
        leaves("pass", ILLEGAL, t -> t.pass(0), t -> t.pass(41));
        leaves("colourAt", OUT, t -> t.colourAt(5, 3), t -> t.colourAt(0, -1));
        leaves("isStubborn", OUT, t -> t.isStubborn(5, 3), t -> t.isStubborn(0, -1));
        leaves("neighboursWith", OUT, t -> t.neighboursWith(1, 1, 5), t -> t.neighboursWith(4, 4, 1));
        leaves("nextColour", OUT, t -> t.nextColour(5, 3), t -> t.nextColour(0, -1));
        leaves("regionSize", OUT, t -> t.regionSize(5, 3), t -> t.regionSize(0, -1));
        leaves("cellsOf", OUT, t -> t.cellsOf(-1), t -> t.cellsOf(5));
        leaves("regionsOf", OUT, t -> t.regionsOf(0), t -> t.regionsOf(5));
        leaves("greatestRegion", OUT, t -> t.greatestRegion(0), t -> t.greatestRegion(5));
        leaves("cellsAfter, waves", ILLEGAL, t -> t.cellsAfter(0, 1), t -> t.cellsAfter(41, 1));
        leaves("cellsAfter, colour", OUT, t -> t.cellsAfter(1, -1), t -> t.cellsAfter(40, 5));
        leaves("wins", OUT, t -> t.wins(0), t -> t.wins(5));
        leaves("fewestSeeds", OUT, t -> t.fewestSeeds(0), t -> t.fewestSeeds(5));
        leaves("bestCell, colour", OUT, t -> t.bestCell(0, 1), t -> t.bestCell(5, 24));
        leaves("bestCell, waves", ILLEGAL, t -> t.bestCell(1, 0), t -> t.bestCell(4, 25));
        leaves("share", OUT, t -> t.share(-1), t -> t.share(5));
    }

    /** Behind the refused call all answers are those of an alike map that was not asked for it. */
    @SafeVarargs
    private static void leaves(String what, Class<? extends Exception> kind, Consumer<ColourTide>... calls) {
        for (Consumer<ColourTide> call : calls) {
            ColourTide tide = motley(5, 4);
            CHECK.refuses(what, tide, kind, () -> call.accept(tide));
            CHECK.same("all answers behind a refused " + what, Answers.of(tide), Answers.of(motley(5, 4)));
        }
    }

    // ---- "(nothing is changed)", and the calls that only tell something

    private static void askingChangesNothing() {
        asks("nextColour", t -> t.nextColour(1, 1));
        asks("wavesUntilStill", ColourTide::wavesUntilStill);
        asks("cellsAfter", t -> t.cellsAfter(40, 0), t -> t.cellsAfter(1, 2));
        asks("wins", t -> t.wins(1), t -> t.wins(4));
        asks("fewestSeeds", t -> t.fewestSeeds(1), t -> t.fewestSeeds(4));
        asks("bestCell", t -> t.bestCell(1, 24), t -> t.bestCell(3, 1));
        asks("the tellers", t -> t.colourAt(0, 0), t -> t.isStubborn(0, 0), t -> t.neighboursWith(0, 0, 1),
                t -> t.regionSize(0, 0), t -> t.cellsOf(0), t -> t.regionsOf(1), t -> t.greatestRegion(1),
                ColourTide::borders, ColourTide::leader, ColourTide::isStill, ColourTide::winner,
                ColourTide::digest, t -> t.share(0));
    }

    @SafeVarargs
    private static void asks(String what, Consumer<ColourTide>... calls) {
        for (Consumer<ColourTide> call : calls) {
            ColourTide tide = motley(5, 4);
            CHECK.takes(what, () -> call.accept(tide));
            CHECK.same("all answers behind " + what, Answers.of(tide), Answers.of(motley(5, 4)));
        }
    }
}
