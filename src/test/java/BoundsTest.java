/**
 * Each "Throws .." of the document: just inside and just outside of each bound, what a refused call
 * leaves unchanged, and which exception comes first where two apply.
 */
public final class BoundsTest {
    private static final Class<IllegalArgumentException> ILLEGAL = IllegalArgumentException.class;
    private static final Class<IndexOutOfBoundsException> OUT = IndexOutOfBoundsException.class;

    // Beside the ends of an int, numbers that fall on the map where a product or a shift wraps around.
    private static final int[] FAR = {Integer.MIN_VALUE, Integer.MIN_VALUE + 1, -64, -32, -6, 6, 31, 32, 33,
        64, 256, 65536, 715827883, 858993460, 1 << 30, Integer.MAX_VALUE - 1, Integer.MAX_VALUE};

    private static final Check CHECK = new Check();

    private interface CellCall {
        void on(ColourTide tide, int x, int y);
    }

    private interface ColourCall {
        void with(ColourTide tide, int number);
    }

    private interface TwoNumbers {
        void on(ColourTide tide, int first, int second);
    }

    private interface Due {
        Class<? extends Exception> of(int first, int second);
    }

    public static void main(String[] args) {
        newMapOfEachSize();
        eachCellOfEachMap();
        cellsBesideTheFirstMap();
        paintWithEachColour();
        neighboursWithEachColour();
        callsWithAColourOrBare();
        callsWithAColour();
        needs();
        wavesToPass();
        cellsAfterWavesAndColour();
        bestCellColourAndWaves();
        severalReasonsOfOneKind();
        refusedCallsLeaveAllAnswers();
        askingChangesNothing();
        CHECK.end();
    }

    // ---- what is called, and with what

    /** A map of this size with all colours, bare and stubborn cells, and one wave behind it. */
    private static ColourTide motley(int w, int h) {
        ColourTide tide = new ColourTide();
        tide.newMap(w, h);
        paintMotley(tide);
        return tide;
    }

    private static void paintMotley(ColourTide tide) {
        int[] colours = {1, 2, 1, 0, 3, 3, 1, 4, 2, 2, 0, 1};
        for (int y = 0; y < tide.height(); y++) {
            for (int x = 0; x < tide.width(); x++) {
                tide.paint(x, y, colours[(3 * x + 5 * y) % colours.length]);
                if ((x + 2 * y) % 4 == 3) {
                    tide.turnStubborn(x, y);
                }
            }
        }
        tide.pass(1);
    }

    private static int[] from(int least, int most) {
        int near = most - least + 1;
        int[] numbers = new int[near + FAR.length];
        for (int i = 0; i < near; i++) {
            numbers[i] = least + i;
        }
        System.arraycopy(FAR, 0, numbers, near, FAR.length);
        return numbers;
    }

    private static boolean within(int number, int least, int most) {
        return least <= number && number <= most;
    }

    /** Each number just beside least to most, and the far ones, is refused; each other one is taken. */
    private static void bounds(String what, int least, int most, Class<? extends Exception> kind, ColourCall call) {
        for (int number : from(least - 3, most + 3)) {
            ColourTide tide = motley(4, 3);
            judge(what + " of " + number, tide, within(number, least, most) ? null : kind,
                    () -> call.with(tide, number));
        }
    }

    private static void judge(String what, ColourTide tide, Class<? extends Exception> kind, Runnable call) {
        if (kind == null) {
            CHECK.takes(what, call);
        } else {
            CHECK.refuses(what, tide, kind, call);
        }
    }

    // ---- "if w or h is not 2 to 5"

    private static void newMapOfEachSize() {
        for (int w : from(-3, 9)) {
            for (int h : from(-3, 9)) {
                ColourTide tide = motley(3, 4);
                boolean both = within(w, 2, 5) && within(h, 2, 5);
                judge("newMap(" + w + ", " + h + ")", tide, both ? null : ILLEGAL, () -> tide.newMap(w, h));
                CHECK.same("width() behind newMap(" + w + ", " + h + ")", tide.width(), both ? w : 3);
                CHECK.same("height() behind newMap(" + w + ", " + h + ")", tide.height(), both ? h : 4);
            }
        }
    }

    // ---- "if there is no such cell"

    private static void eachCellOfEachMap() {
        for (int w = 2; w <= 5; w++) {
            for (int h = 2; h <= 5; h++) {
                cellsOfAMap(motley(w, h));
            }
        }
        // A map that was greater before: the cells it has lost are there no more.
        ColourTide shrunk = motley(5, 5);
        shrunk.newMap(3, 2);
        paintMotley(shrunk);
        cellsOfAMap(shrunk);
    }

    private static void cellsBesideTheFirstMap() {
        ColourTide tide = new ColourTide();
        paintMotley(tide);
        cellsOfAMap(tide);
    }

    private static void cellsOfAMap(ColourTide tide) {
        cells("paint", tide, (t, x, y) -> t.paint(x, y, 4));
        cells("paint bare", tide, (t, x, y) -> t.paint(x, y, 0));
        paintMotley(tide);
        cells("turnStubborn", tide, ColourTide::turnStubborn);
        cells("colourAt", tide, ColourTide::colourAt);
        cells("isStubborn", tide, ColourTide::isStubborn);
        cells("neighboursWith", tide, (t, x, y) -> t.neighboursWith(x, y, 0));
        cells("nextColour", tide, ColourTide::nextColour);
        cells("regionSize", tide, ColourTide::regionSize);
    }

    private static void cells(String what, ColourTide tide, CellCall call) {
        int w = tide.width();
        int h = tide.height();
        for (int x : from(-2, 7)) {
            for (int y : from(-2, 7)) {
                boolean there = within(x, 0, w - 1) && within(y, 0, h - 1);
                judge(what + " of (" + x + ", " + y + ") on " + w + " by " + h, tide, there ? null : OUT,
                        () -> call.on(tide, x, y));
            }
        }
    }

    // ---- "or colour is not 0 to 4", "if colour is not 0 to 4", "if colour is not 1 to 4"

    private static void paintWithEachColour() {
        bounds("paint with a colour", 0, 4, OUT, (t, colour) -> t.paint(3, 2, colour));
    }

    private static void neighboursWithEachColour() {
        bounds("neighboursWith a colour", 0, 4, OUT, (t, colour) -> t.neighboursWith(3, 2, colour));
    }

    private static void callsWithAColourOrBare() {
        bounds("cellsOf", 0, 4, OUT, ColourTide::cellsOf);
        bounds("share", 0, 4, OUT, ColourTide::share);
        bounds("cellsAfter a wave", 0, 4, OUT, (t, colour) -> t.cellsAfter(1, colour));
        bounds("cellsAfter 40 waves", 0, 4, OUT, (t, colour) -> t.cellsAfter(40, colour));
    }

    private static void callsWithAColour() {
        bounds("regionsOf", 1, 4, OUT, ColourTide::regionsOf);
        bounds("greatestRegion", 1, 4, OUT, ColourTide::greatestRegion);
        bounds("wins", 1, 4, OUT, ColourTide::wins);
        bounds("fewestSeeds", 1, 4, OUT, ColourTide::fewestSeeds);
        bounds("bestCell a wave on", 1, 4, OUT, (t, colour) -> t.bestCell(colour, 1));
        bounds("bestCell 24 waves on", 1, 4, OUT, (t, colour) -> t.bestCell(colour, 24));
    }

    // ---- "if need is not 1 to 4", "if waves is not 1 to 40", "if waves is not 1 to 24"

    private static void needs() {
        bounds("setNeed", 1, 4, ILLEGAL, ColourTide::setNeed);
        for (int need : from(-3, 8)) {
            ColourTide tide = new ColourTide();
            tide.setNeed(3);
            judge("setNeed(" + need + ")", tide, within(need, 1, 4) ? null : ILLEGAL, () -> tide.setNeed(need));
            CHECK.same("need() behind setNeed(" + need + ")", tide.need(), within(need, 1, 4) ? need : 3);
        }
    }

    private static void wavesToPass() {
        bounds("pass", 1, 40, ILLEGAL, ColourTide::pass);
        for (int waves : from(-3, 44)) {
            ColourTide tide = new ColourTide();
            tide.pass(7);
            judge("pass(" + waves + ")", tide, within(waves, 1, 40) ? null : ILLEGAL, () -> tide.pass(waves));
            CHECK.same("waves() behind pass(" + waves + ")", tide.waves(), within(waves, 1, 40) ? 7 + waves : 7);
        }
    }

    // ---- "If several exceptions apply, the one that is named first is thrown."

    private static void cellsAfterWavesAndColour() {
        bounds("cellsAfter waves, of bare cells", 1, 40, ILLEGAL, (t, waves) -> t.cellsAfter(waves, 0));
        bounds("cellsAfter waves, of colour 4", 1, 40, ILLEGAL, (t, waves) -> t.cellsAfter(waves, 4));
        pairs("cellsAfter", from(-1, 42), from(-2, 6), (t, waves, colour) -> t.cellsAfter(waves, colour),
                (waves, colour) -> !within(waves, 1, 40) ? ILLEGAL : !within(colour, 0, 4) ? OUT : null);
    }

    private static void bestCellColourAndWaves() {
        bounds("bestCell waves on, colour 1", 1, 24, ILLEGAL, (t, waves) -> t.bestCell(1, waves));
        bounds("bestCell waves on, colour 4", 1, 24, ILLEGAL, (t, waves) -> t.bestCell(4, waves));
        pairs("bestCell", from(-2, 6), from(-1, 26), (t, colour, waves) -> t.bestCell(colour, waves),
                (colour, waves) -> !within(colour, 1, 4) ? OUT : !within(waves, 1, 24) ? ILLEGAL : null);
    }

    private static void pairs(String what, int[] firsts, int[] seconds, TwoNumbers call, Due due) {
        ColourTide tide = motley(4, 3);
        for (int first : firsts) {
            for (int second : seconds) {
                judge(what + "(" + first + ", " + second + ")", tide, due.of(first, second),
                        () -> call.on(tide, first, second));
            }
        }
    }

    private static void severalReasonsOfOneKind() {
        ColourTide tide = motley(5, 2);
        CHECK.refuses("paint(-1, 0, 5)", tide, OUT, () -> tide.paint(-1, 0, 5));
        CHECK.refuses("paint(5, 2, -1)", tide, OUT, () -> tide.paint(5, 2, -1));
        CHECK.refuses("neighboursWith(0, 2, 5)", tide, OUT, () -> tide.neighboursWith(0, 2, 5));
        CHECK.refuses("neighboursWith(5, 0, -1)", tide, OUT, () -> tide.neighboursWith(5, 0, -1));
        CHECK.refuses("newMap(1, 6)", tide, ILLEGAL, () -> tide.newMap(1, 6));
        CHECK.refuses("newMap(6, 1)", tide, ILLEGAL, () -> tide.newMap(6, 1));
    }

    // ---- "A method that throws an exception changes nothing."

    private static void refusedCallsLeaveAllAnswers() {
        ColourTide tide = motley(5, 4);
        String before = Answers.of(tide);
        leaves("newMap", tide, before, ILLEGAL, () -> tide.newMap(5, 1), () -> tide.newMap(6, 4));
        leaves("paint", tide, before, OUT, () -> tide.paint(0, 0, 5), () -> tide.paint(5, 0, 1));
        leaves("turnStubborn", tide, before, OUT, () -> tide.turnStubborn(0, 4), () -> tide.turnStubborn(-1, 1));
        leaves("setNeed", tide, before, ILLEGAL, () -> tide.setNeed(0), () -> tide.setNeed(5));
        leaves("pass", tide, before, ILLEGAL, () -> tide.pass(0), () -> tide.pass(41));
        leaves("colourAt", tide, before, OUT, () -> tide.colourAt(5, 3), () -> tide.colourAt(0, -1));
        leaves("isStubborn", tide, before, OUT, () -> tide.isStubborn(5, 3), () -> tide.isStubborn(0, -1));
        leaves("neighboursWith", tide, before, OUT, () -> tide.neighboursWith(1, 1, 5),
                () -> tide.neighboursWith(4, 4, 1));
        leaves("nextColour", tide, before, OUT, () -> tide.nextColour(5, 3), () -> tide.nextColour(0, -1));
        leaves("regionSize", tide, before, OUT, () -> tide.regionSize(5, 3), () -> tide.regionSize(0, -1));
        leaves("cellsOf", tide, before, OUT, () -> tide.cellsOf(-1), () -> tide.cellsOf(5));
        leaves("regionsOf", tide, before, OUT, () -> tide.regionsOf(0), () -> tide.regionsOf(5));
        leaves("greatestRegion", tide, before, OUT, () -> tide.greatestRegion(0), () -> tide.greatestRegion(5));
        leaves("cellsAfter, waves", tide, before, ILLEGAL, () -> tide.cellsAfter(0, 1), () -> tide.cellsAfter(41, 1));
        leaves("cellsAfter, colour", tide, before, OUT, () -> tide.cellsAfter(1, -1), () -> tide.cellsAfter(40, 5));
        leaves("wins", tide, before, OUT, () -> tide.wins(0), () -> tide.wins(5));
        leaves("fewestSeeds", tide, before, OUT, () -> tide.fewestSeeds(0), () -> tide.fewestSeeds(5));
        leaves("bestCell, colour", tide, before, OUT, () -> tide.bestCell(0, 1), () -> tide.bestCell(5, 24));
        leaves("bestCell, waves", tide, before, ILLEGAL, () -> tide.bestCell(1, 0), () -> tide.bestCell(4, 25));
        leaves("share", tide, before, OUT, () -> tide.share(-1), () -> tide.share(5));
    }

    private static void leaves(String what, ColourTide tide, String before, Class<? extends Exception> kind,
            Runnable... calls) {
        for (Runnable call : calls) {
            CHECK.refuses(what, tide, kind, call);
            CHECK.same("all answers behind a refused " + what, Answers.of(tide), before);
        }
    }

    // ---- "(nothing is changed)", and the calls that only tell something

    private static void askingChangesNothing() {
        ColourTide tide = motley(5, 4);
        String before = Answers.of(tide);
        asks("nextColour", tide, before, () -> tide.nextColour(1, 1));
        asks("wavesUntilStill", tide, before, tide::wavesUntilStill);
        asks("cellsAfter", tide, before, () -> tide.cellsAfter(40, 0), () -> tide.cellsAfter(1, 2));
        asks("wins", tide, before, () -> tide.wins(1), () -> tide.wins(4));
        asks("fewestSeeds", tide, before, () -> tide.fewestSeeds(1), () -> tide.fewestSeeds(4));
        asks("bestCell", tide, before, () -> tide.bestCell(1, 24), () -> tide.bestCell(3, 1));
        asks("the tellers", tide, before, () -> tide.colourAt(0, 0), () -> tide.isStubborn(0, 0),
                () -> tide.neighboursWith(0, 0, 1), () -> tide.regionSize(0, 0), () -> tide.cellsOf(0),
                () -> tide.regionsOf(1), () -> tide.greatestRegion(1), tide::borders, tide::leader,
                tide::isStill, tide::winner, tide::digest, () -> tide.share(0));
    }

    private static void asks(String what, ColourTide tide, String before, Runnable... calls) {
        for (Runnable call : calls) {
            CHECK.takes(what, call);
            CHECK.same("all answers behind " + what, Answers.of(tide), before);
        }
    }
}
