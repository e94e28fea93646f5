import java.util.function.IntConsumer;

/** Each promise of the document by maps made by hand: ordinary inputs, edges, wrong inputs. */
public final class PromisesTest {
    private static final Class<IllegalArgumentException> ILLEGAL = IllegalArgumentException.class;
    private static final Class<IndexOutOfBoundsException> OUT = IndexOutOfBoundsException.class;
    private static final int[] NO_COLOUR_OR_BARE = {-1, 5, Integer.MIN_VALUE, Integer.MAX_VALUE};
    private static final int[] NO_COLOUR = {0, -1, 5, Integer.MIN_VALUE, Integer.MAX_VALUE};

    private static final Check CHECK = new Check();

    private interface CellCall {
        void on(int x, int y);
    }

    public static void main(String[] args) {
        aNewObject();
        newMap();
        paint();
        turnStubborn();
        setNeed();
        pass();
        passWithNeedAndStubbornCells();
        colourAt();
        isStubborn();
        neighboursWith();
        nextColour();
        regionSize();
        sizesNeedAndWaves();
        stubbornCells();
        cellsOf();
        regionsOf();
        greatestRegion();
        borders();
        leader();
        isStill();
        winner();
        wavesUntilStill();
        cellsAfter();
        wins();
        fewestSeeds();
        bestCell();
        share();
        digest();
        CHECK.end();
    }

    /** Each cell just beside a map of 4 by 3, and some far away, are refused. */
    private static void refusesOtherCells(String what, ColourTide tide, CellCall call) {
        int[][] cells = {{-1, 0}, {4, 0}, {0, -1}, {0, 3}, {3, 3}, {4, 2}, {-1, -1}, {4, 3}, {5, 0},
            {6, 0}, {32, 0}, {0, 32}, {-6, 1}, {Integer.MAX_VALUE, 0}, {0, Integer.MIN_VALUE}};
        for (int[] cell : cells) {
            CHECK.refuses(what + " of (" + cell[0] + ", " + cell[1] + ")", tide, OUT,
                    () -> call.on(cell[0], cell[1]));
        }
    }

    private static void refuses(String what, ColourTide tide, Class<? extends Exception> kind,
            int[] numbers, IntConsumer call) {
        for (int number : numbers) {
            CHECK.refuses(what + " of " + number, tide, kind, () -> call.accept(number));
        }
    }

    private static ColourTide fourByThree() {
        return Maps.painted(2, "11.2", "1.22", "...3");
    }

    // ---- promise 1

    private static void aNewObject() {
        ColourTide tide = new ColourTide();
        CHECK.same("new: the map", Maps.read(tide), "..../..../..../....");
        CHECK.same("new: width()", tide.width(), 4);
        CHECK.same("new: height()", tide.height(), 4);
        CHECK.same("new: need()", tide.need(), 2);
        CHECK.same("new: waves()", tide.waves(), 0);
        CHECK.same("new: stubbornCells()", tide.stubbornCells(), 0);
        CHECK.same("new: cellsOf(0)", tide.cellsOf(0), 16);
        ColourTide other = new ColourTide();
        other.paint(0, 0, 1);
        CHECK.same("new: beside another object", tide.colourAt(0, 0), 0);
    }

    // ---- promise 2

    private static void newMap() {
        for (int w = 2; w <= 5; w++) {
            for (int h = 2; h <= 5; h++) {
                ColourTide tide = new ColourTide();
                CHECK.same("newMap(" + w + ", " + h + ")", tide.newMap(w, h), w * h);
                CHECK.same("newMap: width()", tide.width(), w);
                CHECK.same("newMap: height()", tide.height(), h);
                CHECK.same("newMap: cellsOf(0)", tide.cellsOf(0), w * h);
                tide.paint(w - 1, h - 1, 3);
                CHECK.same("newMap: colourAt the last cell", tide.colourAt(w - 1, h - 1), 3);
            }
        }
        ColourTide tide = Maps.painted(3, "11", "22");
        tide.turnStubborn(1, 1);
        tide.pass(7);
        CHECK.same("newMap(2, 2) again", tide.newMap(2, 2), 4);
        CHECK.same("newMap: bare", Maps.read(tide), "../..");
        CHECK.same("newMap: stubbornCells()", tide.stubbornCells(), 0);
        CHECK.same("newMap: the need stays", tide.need(), 3);
        CHECK.same("newMap: waves() anew", tide.waves(), 0);
        int[] wrong = {1, 6, 0, -1, -4, Integer.MIN_VALUE, Integer.MAX_VALUE};
        ColourTide full = fourByThree();
        refuses("newMap's width", full, ILLEGAL, wrong, w -> full.newMap(w, 3));
        refuses("newMap's height", full, ILLEGAL, wrong, h -> full.newMap(3, h));
    }

    // ---- promise 3

    private static void paint() {
        ColourTide tide = new ColourTide();
        CHECK.same("paint a bare cell", tide.paint(1, 2, 4), 0);
        CHECK.same("paint: colourAt", tide.colourAt(1, 2), 4);
        CHECK.same("paint: not the mirrored cell", tide.colourAt(2, 1), 0);
        CHECK.same("paint it again", tide.paint(1, 2, 1), 4);
        CHECK.same("paint it the same", tide.paint(1, 2, 1), 1);
        CHECK.same("paint: make it bare", tide.paint(1, 2, 0), 1);
        CHECK.same("paint: bare", tide.cellsOf(0), 16);
        tide.turnStubborn(1, 2);
        CHECK.same("paint a stubborn cell", tide.paint(1, 2, 3), 0);
        CHECK.same("paint: stubborn and painted", tide.colourAt(1, 2), 3);
        CHECK.same("paint: it stays stubborn", tide.isStubborn(1, 2), true);
        ColourTide other = fourByThree();
        refusesOtherCells("paint", other, (x, y) -> other.paint(x, y, 1));
        refuses("paint with a colour", other, OUT, NO_COLOUR_OR_BARE, c -> other.paint(0, 0, c));
    }

    // ---- promises 4, 8 and 16

    private static void turnStubborn() {
        ColourTide tide = new ColourTide();
        CHECK.same("turnStubborn", tide.turnStubborn(3, 0), true);
        CHECK.same("turnStubborn: isStubborn", tide.isStubborn(3, 0), true);
        CHECK.same("turnStubborn another", tide.turnStubborn(0, 3), true);
        CHECK.same("turnStubborn back", tide.turnStubborn(3, 0), false);
        CHECK.same("turnStubborn back: isStubborn", tide.isStubborn(3, 0), false);
        CHECK.same("turnStubborn: the other", tide.isStubborn(0, 3), true);
        ColourTide other = fourByThree();
        refusesOtherCells("turnStubborn", other, other::turnStubborn);
    }

    private static void isStubborn() {
        ColourTide tide = fourByThree();
        tide.turnStubborn(2, 1);
        CHECK.same("isStubborn", tide.isStubborn(2, 1), true);
        CHECK.same("isStubborn of the mirrored cell", tide.isStubborn(1, 2), false);
        tide.pass(3);
        CHECK.same("isStubborn behind waves", tide.isStubborn(2, 1), true);
        refusesOtherCells("isStubborn", tide, tide::isStubborn);
    }

    private static void stubbornCells() {
        ColourTide tide = new ColourTide();
        tide.newMap(5, 5);
        for (int i = 0; i < 25; i++) {
            CHECK.same("stubbornCells()", tide.stubbornCells(), i);
            tide.turnStubborn(i % 5, i / 5);
        }
        CHECK.same("stubbornCells() of all", tide.stubbornCells(), 25);
        tide.turnStubborn(2, 2);
        CHECK.same("stubbornCells() without one", tide.stubbornCells(), 24);
    }

    // ---- promise 5

    private static void setNeed() {
        ColourTide tide = fourByThree();
        CHECK.same("setNeed(4)", tide.setNeed(4), 2);
        CHECK.same("setNeed(1)", tide.setNeed(1), 4);
        CHECK.same("setNeed(1) again", tide.setNeed(1), 1);
        CHECK.same("setNeed(3)", tide.setNeed(3), 1);
        CHECK.same("setNeed: need()", tide.need(), 3);
        int[] wrong = {0, 5, -1, Integer.MIN_VALUE, Integer.MAX_VALUE};
        refuses("setNeed", tide, ILLEGAL, wrong, tide::setNeed);
    }

    // ---- promise 6

    private static void pass() {
        ColourTide tide = Maps.painted(1, "1...2", ".....", ".....");
        CHECK.same("pass(1)", tide.pass(1), 4);
        CHECK.same("pass: the cells at the same time", Maps.read(tide), "11.22/1...2/.....");
        CHECK.same("pass: waves()", tide.waves(), 1);
        CHECK.same("pass(2): of the last one alone", tide.pass(2), 2);
        CHECK.same("pass: between both", Maps.read(tide), "11.22/11.22/11.22");
        CHECK.same("pass(40) of a still map", tide.pass(40), 0);
        CHECK.same("pass(1), only the first cell", Maps.painted(2, "21", "11").pass(1), 1);
        CHECK.same("pass: waves() of a still map too", tide.waves(), 43);
        ColourTide turning = Maps.painted(2, "12", "21");
        CHECK.same("pass(40) of a turning map", turning.pass(40), 4);
        CHECK.same("pass: as at first", Maps.read(turning), "12/21");
        CHECK.same("pass(39)", turning.pass(39), 4);
        CHECK.same("pass: turned", Maps.read(turning), "21/12");
        int[] wrong = {0, -1, 41, Integer.MIN_VALUE, Integer.MAX_VALUE};
        refuses("pass", turning, ILLEGAL, wrong, turning::pass);
    }

    private static void passWithNeedAndStubbornCells() {
        String[] rows = {".1.", "1.1", ".2."};
        CHECK.same("pass, need 1", behind(1, rows), "111/111/.2.");
        CHECK.same("pass, need 2", behind(2, rows), "111/111/.2.");
        CHECK.same("pass, need 3", behind(3, rows), ".1./111/.2.");
        CHECK.same("pass, need 4", behind(4, rows), ".1./1.1/.2.");
        CHECK.same("pass, need 4, four", behind(4, ".1.", "121", ".1."), ".1./111/.1.");
        CHECK.same("pass, of as many neighbours", behind(1, ".1.", "2.2", ".1."), ".1./2.2/.1.");
        CHECK.same("pass, two of three kinds", behind(2, ".1.", "3.1", ".2."), ".11/311/.2.");
        CHECK.same("pass, one of four kinds", behind(1, ".1.", "3.4", ".2."), ".1./3.4/.2.");
        CHECK.same("pass, rows do not join", behind(1, "....1", "....."), "...11/....1");
        CHECK.same("pass, rows do not join", behind(1, ".....", "2...."), "2..../22...");
        ColourTide tide = Maps.painted(2, ".1.", "1.1", ".2.");
        tide.turnStubborn(1, 1);
        tide.turnStubborn(1, 0);
        CHECK.same("pass with stubborn cells", tide.pass(1), 2);
        CHECK.same("pass: stubborn cells stay", Maps.read(tide), "111/1.1/.2.");
    }

    private static String behind(int need, String... rows) {
        ColourTide tide = Maps.painted(need, rows);
        String foreseen = Maps.readNext(tide);
        tide.pass(1);
        CHECK.same("nextColour of each cell", foreseen, Maps.read(tide));
        return foreseen;
    }

    // ---- promises 7, 9, 10 and 11

    private static void colourAt() {
        ColourTide tide = fourByThree();
        CHECK.same("colourAt each cell", Maps.read(tide), "11.2/1.22/...3");
        CHECK.same("colourAt(3, 2)", tide.colourAt(3, 2), 3);
        CHECK.same("colourAt(0, 1)", tide.colourAt(0, 1), 1);
        refusesOtherCells("colourAt", tide, tide::colourAt);
    }

    private static void neighboursWith() {
        ColourTide tide = fourByThree();
        CHECK.same("neighboursWith(1, 1, 1)", tide.neighboursWith(1, 1, 1), 2);
        CHECK.same("neighboursWith(1, 1, 2)", tide.neighboursWith(1, 1, 2), 1);
        CHECK.same("neighboursWith(1, 1, 0)", tide.neighboursWith(1, 1, 0), 1);
        CHECK.same("neighboursWith(1, 1, 4)", tide.neighboursWith(1, 1, 4), 0);
        CHECK.same("neighboursWith(3, 1, 2)", tide.neighboursWith(3, 1, 2), 2);
        CHECK.same("neighboursWith(3, 1, 3)", tide.neighboursWith(3, 1, 3), 1);
        CHECK.same("neighboursWith(0, 0, 1), without itself", tide.neighboursWith(0, 0, 1), 2);
        CHECK.same("neighboursWith(0, 0, 0), on the map", tide.neighboursWith(0, 0, 0), 0);
        CHECK.same("neighboursWith(0, 2, 0)", tide.neighboursWith(0, 2, 0), 1);
        ColourTide bare = new ColourTide();
        CHECK.same("neighboursWith inside", bare.neighboursWith(1, 2, 0), 4);
        CHECK.same("neighboursWith at a side", bare.neighboursWith(3, 1, 0), 3);
        CHECK.same("neighboursWith in a corner", bare.neighboursWith(3, 3, 0), 2);
        refusesOtherCells("neighboursWith", tide, (x, y) -> tide.neighboursWith(x, y, 1));
        refuses("neighboursWith", tide, OUT, NO_COLOUR_OR_BARE, c -> tide.neighboursWith(0, 0, c));
    }

    private static void nextColour() {
        ColourTide tide = fourByThree();
        tide.turnStubborn(3, 2);
        long before = tide.digest();
        CHECK.same("nextColour(1, 1)", tide.nextColour(1, 1), 1);
        CHECK.same("nextColour(2, 0)", tide.nextColour(2, 0), 2);
        CHECK.same("nextColour(2, 2), too few", tide.nextColour(2, 2), 0);
        CHECK.same("nextColour(0, 0), it stays", tide.nextColour(0, 0), 1);
        CHECK.same("nextColour(3, 2), stubborn", tide.nextColour(3, 2), 3);
        tide.setNeed(1);
        CHECK.same("nextColour(3, 2), stubborn, need 1", tide.nextColour(3, 2), 3);
        CHECK.same("nextColour(2, 2), as many", tide.nextColour(2, 2), 0);
        CHECK.same("nextColour(0, 2), need 1", tide.nextColour(0, 2), 1);
        tide.setNeed(2);
        CHECK.same("nextColour changes nothing", tide.digest(), before);
        refusesOtherCells("nextColour", tide, tide::nextColour);
    }

    private static void regionSize() {
        ColourTide tide = fourByThree();
        CHECK.same("regionSize(0, 0)", tide.regionSize(0, 0), 3);
        CHECK.same("regionSize(0, 1)", tide.regionSize(0, 1), 3);
        CHECK.same("regionSize(2, 1)", tide.regionSize(2, 1), 3);
        CHECK.same("regionSize(3, 2)", tide.regionSize(3, 2), 1);
        CHECK.same("regionSize of a bare cell", tide.regionSize(1, 2), 0);
        ColourTide snake = Maps.painted(2, "11111", "2...1", "11111", "1...2", "11111");
        CHECK.same("regionSize of a snake", snake.regionSize(4, 4), 17);
        CHECK.same("regionSize, rows do not join", snake.regionSize(0, 1), 1);
        ColourTide aslant = Maps.painted(2, "12", "21");
        CHECK.same("regionSize, not aslant", aslant.regionSize(0, 0), 1);
        refusesOtherCells("regionSize", tide, tide::regionSize);
    }

    // ---- promises 12 to 15

    private static void sizesNeedAndWaves() {
        ColourTide tide = new ColourTide();
        tide.newMap(5, 2);
        CHECK.same("width()", tide.width(), 5);
        CHECK.same("height()", tide.height(), 2);
        tide.setNeed(4);
        CHECK.same("need()", tide.need(), 4);
        tide.pass(40);
        tide.pass(3);
        CHECK.same("waves()", tide.waves(), 43);
        tide.cellsAfter(5, 1);
        tide.wavesUntilStill();
        tide.paint(0, 0, 1);
        CHECK.same("waves() on a painted map", tide.waves(), 43);
        tide.newMap(5, 2);
        CHECK.same("waves() on a new map", tide.waves(), 0);
    }

    // ---- promises 17 to 19

    private static void cellsOf() {
        ColourTide tide = fourByThree();
        int[] due = {5, 3, 3, 1, 0};
        for (int colour = 0; colour <= 4; colour++) {
            CHECK.same("cellsOf(" + colour + ")", tide.cellsOf(colour), due[colour]);
        }
        refuses("cellsOf", tide, OUT, NO_COLOUR_OR_BARE, tide::cellsOf);
    }

    private static void regionsOf() {
        ColourTide tide = Maps.painted(2, "12121", "21212", "12121", "21212", "12144");
        CHECK.same("regionsOf(1)", tide.regionsOf(1), 12);
        CHECK.same("regionsOf(2)", tide.regionsOf(2), 11);
        CHECK.same("regionsOf(3)", tide.regionsOf(3), 0);
        CHECK.same("regionsOf(4)", tide.regionsOf(4), 1);
        refuses("regionsOf", tide, OUT, NO_COLOUR, tide::regionsOf);
    }

    private static void greatestRegion() {
        ColourTide tide = Maps.painted(2, "1.11.", "1...1", "22.11", "..2.1", "22222");
        CHECK.same("greatestRegion(1)", tide.greatestRegion(1), 4);
        CHECK.same("greatestRegion(2)", tide.greatestRegion(2), 6);
        CHECK.same("greatestRegion(4)", tide.greatestRegion(4), 0);
        CHECK.same("greatestRegion of the first cell", Maps.painted(2, "31", "11").greatestRegion(3), 1);
        ColourTide first = Maps.painted(2, "333..", "....3");
        CHECK.same("greatestRegion, the first one", first.greatestRegion(3), 3);
        refuses("greatestRegion", tide, OUT, NO_COLOUR, tide::greatestRegion);
    }

    // ---- promises 20 to 23

    private static void borders() {
        CHECK.same("borders()", fourByThree().borders(), 1);
        CHECK.same("borders() of all", Maps.painted(2, "1234", "2341").borders(), 10);
        CHECK.same("borders(), rows do not join", Maps.painted(2, "1...1", "2...2").borders(), 2);
        CHECK.same("borders() of rows", Maps.painted(2, "....1", "2....").borders(), 0);
        CHECK.same("borders() of one colour", Maps.painted(2, "33", "33").borders(), 0);
        CHECK.same("borders() of a bare map", new ColourTide().borders(), 0);
        CHECK.same("borders() of 40", Maps.painted(2, "12121", "21212", "12121", "21212", "12121").borders(), 40);
    }

    private static void leader() {
        CHECK.same("leader() of a bare map", new ColourTide().leader(), 0);
        CHECK.same("leader() of several", Maps.painted(2, "44.", "3.3").leader(), 3);
        CHECK.same("leader() with the most", Maps.painted(2, "44.", "314").leader(), 4);
        CHECK.same("leader() of one cell", Maps.painted(2, "..", ".2").leader(), 2);
    }

    private static void isStill() {
        CHECK.same("isStill() of a bare map", new ColourTide().isStill(), true);
        CHECK.same("isStill() of a turning map", Maps.painted(2, "12", "21").isStill(), false);
        CHECK.same("isStill() of too few", Maps.painted(3, "12", "21").isStill(), true);
        CHECK.same("isStill() of one colour", Maps.painted(1, "11", "11").isStill(), true);
        ColourTide tide = Maps.painted(2, "1.", ".1");
        CHECK.same("isStill() of a bare cell to change", tide.isStill(), false);
        tide.turnStubborn(1, 0);
        CHECK.same("isStill() with one cell to change", tide.isStill(), false);
        tide.turnStubborn(0, 1);
        CHECK.same("isStill() with stubborn cells", tide.isStill(), true);
        CHECK.same("isStill() changes nothing", Maps.read(tide), "1./.1");
    }

    private static void winner() {
        CHECK.same("winner() of a bare map", new ColourTide().winner(), 0);
        CHECK.same("winner()", Maps.painted(2, "333", "333").winner(), 3);
        CHECK.same("winner() of 1", Maps.painted(2, "11", "11", "11").winner(), 1);
        CHECK.same("winner() of 4", Maps.painted(2, "44", "44").winner(), 4);
        CHECK.same("winner() with a bare cell", Maps.painted(2, "11", "1.").winner(), 0);
        CHECK.same("winner() of two", Maps.painted(2, "11", "12").winner(), 0);
    }

    // ---- promises 24 to 26

    private static void wavesUntilStill() {
        CHECK.same("wavesUntilStill() of a bare map", new ColourTide().wavesUntilStill(), 0);
        ColourTide tide = Maps.painted(1, "1....", ".....", ".....", ".....", ".....");
        CHECK.same("wavesUntilStill() from a corner", tide.wavesUntilStill(), 8);
        CHECK.same("wavesUntilStill() changes nothing", tide.cellsOf(1), 1);
        CHECK.same("wavesUntilStill() passes none", tide.waves(), 0);
        tide.pass(7);
        CHECK.same("wavesUntilStill() of one more", tide.wavesUntilStill(), 1);
        tide.pass(1);
        CHECK.same("wavesUntilStill() now", tide.wavesUntilStill(), 0);
        CHECK.same("wavesUntilStill() of a turning map", Maps.painted(2, "12", "21").wavesUntilStill(), -1);
        wavesUntilStillOfALongRun();
    }

    // The map was found by a search: it is still behind 42 waves, just beyond the edge of 40.
    private static void wavesUntilStillOfALongRun() {
        ColourTide tide = Maps.painted(1, "23312", "33132", "31203", "10010", "43212");
        int[][] stubborn = {{0, 0}, {4, 0}, {2, 2}, {2, 4}};
        for (int[] cell : stubborn) {
            tide.turnStubborn(cell[0], cell[1]);
        }
        CHECK.same("wavesUntilStill(), 42 are left", tide.wavesUntilStill(), -1);
        tide.pass(1);
        CHECK.same("wavesUntilStill(), 41 are left", tide.wavesUntilStill(), -1);
        tide.pass(1);
        CHECK.same("wavesUntilStill(), 40 are left", tide.wavesUntilStill(), 40);
        tide.pass(39);
        CHECK.same("isStill() behind 41 waves of 42", tide.isStill(), false);
        tide.pass(1);
        CHECK.same("isStill() behind 42 waves", tide.isStill(), true);
    }

    private static void cellsAfter() {
        ColourTide tide = Maps.painted(1, "1....", ".....", ".....", ".....", ".....");
        int[] due = {3, 6, 10, 15, 19, 22, 24, 25, 25};
        for (int waves = 1; waves <= due.length; waves++) {
            CHECK.same("cellsAfter(" + waves + ", 1)", tide.cellsAfter(waves, 1), due[waves - 1]);
            CHECK.same("cellsAfter(" + waves + ", 0)", tide.cellsAfter(waves, 0), 25 - due[waves - 1]);
        }
        CHECK.same("cellsAfter(40, 4)", tide.cellsAfter(40, 4), 0);
        CHECK.same("cellsAfter changes nothing", tide.cellsOf(1) + 100 * tide.waves(), 1);
        ColourTide turning = Maps.painted(2, "12.", "21.");
        CHECK.same("cellsAfter(1, 1) of a turning map", turning.cellsAfter(1, 1), 2);
        ColourTide first = Maps.painted(2, ".1", "1.", "..");
        CHECK.same("cellsAfter(1, 1), need 2", first.cellsAfter(1, 1), 4);
        int[] wrong = {0, -1, 41, Integer.MIN_VALUE, Integer.MAX_VALUE};
        refuses("cellsAfter", tide, ILLEGAL, wrong, waves -> tide.cellsAfter(waves, 1));
        refuses("cellsAfter, both wrong", tide, ILLEGAL, wrong, waves -> tide.cellsAfter(waves, 5));
        refuses("cellsAfter", tide, OUT, NO_COLOUR_OR_BARE, c -> tide.cellsAfter(40, c));
    }

    private static void wins() {
        ColourTide tide = Maps.painted(1, "1....", ".....", ".....", ".....", ".....");
        CHECK.same("wins(1), just behind 8 waves", tide.wins(1), true);
        CHECK.same("wins(2)", tide.wins(2), false);
        CHECK.same("wins changes nothing", tide.cellsOf(1) + 100 * tide.waves(), 1);
        tide.turnStubborn(0, 0);
        CHECK.same("wins(1) from a stubborn cell", tide.wins(1), true);
        tide.turnStubborn(4, 4);
        CHECK.same("wins(1) with a stubborn bare cell", tide.wins(1), false);
        CHECK.same("wins of a winner, behind 0 waves", Maps.painted(4, "22", "22").wins(2), true);
        CHECK.same("wins of another", Maps.painted(4, "22", "22").wins(1), false);
        CHECK.same("wins on a bare map", new ColourTide().wins(1), false);
        ColourTide late = Maps.painted(1, "12222", "21211", "21112", "12222");
        CHECK.same("wins(1), just behind 9 waves: all cells", late.cellsAfter(9, 1), 20);
        CHECK.same("wins(1), just behind 9 waves", late.wins(1), false);
        late.pass(1);
        CHECK.same("wins(1), a wave later", late.wins(1), true);
        refuses("wins", tide, OUT, NO_COLOUR, tide::wins);
    }

    // ---- promises 27 and 28

    private static void fewestSeeds() {
        CHECK.same("fewestSeeds of a winner", Maps.painted(4, "22", "22").fewestSeeds(2), 0);
        CHECK.same("fewestSeeds of one that wins", Maps.painted(2, "1.", ".1").fewestSeeds(1), 0);
        ColourTide one = Maps.painted(2, "1.", "..");
        CHECK.same("fewestSeeds, one is enough", one.fewestSeeds(1), 1);
        CHECK.same("fewestSeeds, two are enough", one.fewestSeeds(2), 2);
        CHECK.same("fewestSeeds changes nothing", Maps.read(one), "1./..");
        CHECK.same("fewestSeeds, two are too few", new ColourTide().fewestSeeds(3), -1);
        ColourTide last = Maps.painted(4, "333", "333", "332");
        CHECK.same("fewestSeeds, the last cell", last.fewestSeeds(3), 1);
        CHECK.same("fewestSeeds, the first cell", Maps.painted(4, "233", "333").fewestSeeds(3), 1);
        CHECK.same("fewestSeeds, first and last cell", Maps.painted(4, "233", "332").fewestSeeds(3), 2);
        last.turnStubborn(2, 2);
        CHECK.same("fewestSeeds, a stubborn cell", last.fewestSeeds(3), 1);
        last.paint(1, 2, 1);
        last.turnStubborn(1, 2);
        CHECK.same("fewestSeeds, two stubborn cells", last.fewestSeeds(3), 2);
        last.paint(0, 0, 1);
        CHECK.same("fewestSeeds, three cells", last.fewestSeeds(3), -1);
        CHECK.same("fewestSeeds, still stubborn", last.stubbornCells(), 2);
        ColourTide bare = new ColourTide();
        bare.setNeed(1);
        bare.newMap(5, 5);
        CHECK.same("fewestSeeds, need 1", bare.fewestSeeds(4), 1);
        refuses("fewestSeeds", last, OUT, NO_COLOUR, last::fewestSeeds);
    }

    private static void bestCell() {
        CHECK.same("bestCell of several", new ColourTide().bestCell(1, 24), 0);
        ColourTide tide = Maps.painted(1, ".....", ".....", ".....");
        CHECK.same("bestCell, 1 wave", tide.bestCell(2, 1), 6);
        CHECK.same("bestCell, 2 waves", tide.bestCell(2, 2), 7);
        CHECK.same("bestCell, 24 waves", tide.bestCell(2, 24), 0);
        CHECK.same("bestCell changes nothing", tide.cellsOf(0), 15);
        ColourTide two = Maps.painted(2, "...", "...", ".4.", "..4");
        CHECK.same("bestCell, number w * row and column", two.bestCell(4, 24), 3);
        CHECK.same("bestCell, 1 wave, need 2", two.bestCell(4, 1), 3);
        CHECK.same("bestCell of the last", Maps.painted(4, "111", "112").bestCell(1, 1), 5);
        CHECK.same("bestCell of a winner", Maps.painted(4, "11", "11").bestCell(1, 24), 0);
        ColourTide stubborn = Maps.painted(4, "11", "22");
        stubborn.turnStubborn(0, 1);
        CHECK.same("bestCell, a stubborn cell", stubborn.bestCell(1, 3), 2);
        refuses("bestCell", tide, OUT, NO_COLOUR, c -> tide.bestCell(c, 24));
        refuses("bestCell, both wrong", tide, OUT, NO_COLOUR, c -> tide.bestCell(c, 25));
        int[] wrong = {0, -1, 25, 40, Integer.MIN_VALUE, Integer.MAX_VALUE};
        refuses("bestCell", tide, ILLEGAL, wrong, waves -> tide.bestCell(1, waves));
    }

    // ---- promises 29 and 30

    private static void share() {
        ColourTide tide = fourByThree();
        CHECK.sameDouble("share(0)", tide.share(0), 5.0 / 12);
        CHECK.sameDouble("share(1)", tide.share(1), 0.25);
        CHECK.sameDouble("share(3)", tide.share(3), 1.0 / 12);
        CHECK.sameDouble("share(4)", tide.share(4), 0.0);
        CHECK.sameDouble("share(0) of a bare map", new ColourTide().share(0), 1.0);
        refuses("share", tide, OUT, NO_COLOUR_OR_BARE, tide::share);
    }

    private static void digest() {
        ColourTide tide = Maps.painted(2, "1.", "21");
        tide.turnStubborn(0, 1);
        tide.pass(1);
        tide.paint(1, 0, 0);
        long[] numbers = {2, 2, 2, 1, 1, 2, 1, 0, 0,
            2, 2, 1, 1, 1, 1, 0, 0, 0, 0, 0, 0,
            1, 0, 1, 1, 0, 0, 1, 0, 2, 1, 2, 1, 1, 0, 1, 1};
        long due = 1871;
        for (long number : numbers) {
            due = due * 31 + number;
        }
        CHECK.same("digest()", tide.digest(), due);
        CHECK.same("digest() again", tide.digest(), due);
    }
}
