import java.math.BigInteger;
import java.util.ArrayList;
import java.util.List;

/**
 * Each sentence of the document that names an edge other than a refused call: what is so at first,
 * what is answered when there is none, when a cell or all cells are bare, when all are alike, what
 * comes just within a number of waves and what just beyond it, and where a number wraps around.
 */
public final class EdgesTest {
    private static final String[] FROM_A_CORNER = {"1....", ".....", ".....", ".....", "....."};
    private static final String[] CHESSBOARD = {"12121", "21212", "12121", "21212", "12121"};

    private static final Check CHECK = new Check();

    public static void main(String[] args) {
        fourAndFourAtFirst();
        noColourAndNoStubbornCellAtFirst();
        needIsTwoAtFirst();
        aMapTakesTheNeedAlong();
        wavesAreCountedAnew();
        theSameSizeAnewIsBareToo();
        usedFor512Calls();
        neighboursAsFarAsTheyAreOnTheMap();
        bareNeighboursCountForNoColour();
        moreThanEachOtherColour();
        atLeastAsManyAsTheNeed();
        otherwiseItStays();
        stubbornCellsStay();
        eachCellAtTheSameTime();
        paintReturnsTheColourBefore();
        turnStubbornTwice();
        setNeedReturnsTheOneBefore();
        passReturnsTheLastWaveAlone();
        oneAndFortyWavesPass();
        bareNoMoreBehindWaves();
        nextColourBare();
        regionSizeOfABareCell();
        regionsHangTogetherByNeighbours();
        noRegionAndManyRegions();
        oneRegionOfOneCell();
        greatestRegionFirstOrLast();
        bordersOfColoursAlone();
        leaderOfSeveral();
        noLeaderIfAllAreBare();
        isStillByOneCell();
        noWinner();
        winnerOfEachColour();
        stillNowOrBehindAWave();
        stillBehindFortyWavesAtMost();
        cellsAfterOneAndFortyWaves();
        winsBehindNoWaves();
        winsBehindEightWavesAtMost();
        fewestSeedsNone();
        fewestSeedsOneOrTwo();
        fewestSeedsTooFew();
        fewestSeedsBehindEightWavesAtMost();
        bestCellOfSeveral();
        bestCellNumber();
        bestCellBehindOneAndTwentyFourWaves();
        shareOfNoneAndAll();
        digestWrapsAround();
        digestTellsNeedAndWaves();
        digestCountsWhetherSomethingIsSo();
        CHECK.end();
    }

    // ---- what is so at first, and for how long

    private static void fourAndFourAtFirst() {
        ColourTide tide = new ColourTide();
        CHECK.same("width() at first", tide.width(), 4);
        CHECK.same("height() at first", tide.height(), 4);
        CHECK.same("the last column and row at first", tide.colourAt(3, 3), 0);
    }

    private static void noColourAndNoStubbornCellAtFirst() {
        ColourTide tide = new ColourTide();
        for (int i = 0; i < 16; i++) {
            CHECK.same("colourAt at first", tide.colourAt(i % 4, i / 4), 0);
            CHECK.same("isStubborn at first", tide.isStubborn(i % 4, i / 4), false);
        }
        CHECK.same("cellsOf(0) at first", tide.cellsOf(0), 16);
        CHECK.same("stubbornCells() at first", tide.stubbornCells(), 0);
        CHECK.same("waves() at first", tide.waves(), 0);
    }

    private static void needIsTwoAtFirst() {
        ColourTide tide = new ColourTide();
        CHECK.same("need() at first", tide.need(), 2);
        tide.paint(1, 0, 1);
        CHECK.same("nextColour at first, one neighbour", tide.nextColour(1, 1), 0);
        tide.paint(0, 1, 1);
        CHECK.same("nextColour at first, two neighbours", tide.nextColour(1, 1), 1);
    }

    private static void aMapTakesTheNeedAlong() {
        for (int need = 1; need <= 4; need++) {
            ColourTide tide = new ColourTide();
            tide.setNeed(need);
            tide.newMap(5, 3);
            CHECK.same("need() on a new map", tide.need(), need);
        }
    }

    private static void wavesAreCountedAnew() {
        ColourTide tide = new ColourTide();
        tide.pass(5);
        tide.newMap(4, 4);
        CHECK.same("waves() on a new map", tide.waves(), 0);
        tide.pass(3);
        CHECK.same("waves() over a new map", tide.waves(), 3);
    }

    private static void theSameSizeAnewIsBareToo() {
        ColourTide tide = Maps.painted(2, "1234", "1234", "1234", "1234");
        for (int i = 0; i < 16; i++) {
            tide.turnStubborn(i % 4, i / 4);
        }
        CHECK.same("newMap(4, 4)", tide.newMap(4, 4), 16);
        CHECK.same("all answers on a new map", Answers.of(tide), Answers.of(new ColourTide()));
    }

    private static void usedFor512Calls() {
        ColourTide tide = Maps.painted(2, "12", "21");
        for (int call = 8; call <= 511; call++) {
            CHECK.same("pass(40), call " + call, tide.pass(40), 4);
        }
        CHECK.same("waves(), call 512", tide.waves(), 504 * 40);
    }

    // ---- neighbours and waves

    private static void neighboursAsFarAsTheyAreOnTheMap() {
        ColourTide tide = new ColourTide();
        for (int i = 0; i < 16; i++) {
            int w = 2 + i % 4;
            int h = 2 + i / 4;
            tide.newMap(w, h);
            for (int cell = 0; cell < w * h; cell++) {
                int x = cell % w;
                int y = cell / w;
                int due = (x > 0 ? 1 : 0) + (x < w - 1 ? 1 : 0) + (y > 0 ? 1 : 0) + (y < h - 1 ? 1 : 0);
                CHECK.same("bare neighbours of (" + x + ", " + y + ") on " + w + " by " + h,
                        tide.neighboursWith(x, y, 0), due);
            }
        }
    }

    private static void bareNeighboursCountForNoColour() {
        CHECK.same("one of 1, three bare", next(1, "...", "..1", "..."), 1);
        CHECK.same("one of 1, one of 2, two bare", next(1, "...", "2.1", "..."), 0);
        CHECK.same("two of 1, two bare", next(2, ".1.", "..1", "..."), 1);
        CHECK.same("four bare", next(1, "...", ".2.", "..."), 2);
    }

    private static void moreThanEachOtherColour() {
        CHECK.same("one each of two", next(1, ".1.", "..2", "..."), 0);
        CHECK.same("one each of three", next(1, ".1.", "3.2", "..."), 0);
        CHECK.same("one each of four", next(1, ".1.", "3.2", ".4."), 0);
        CHECK.same("two each of two", next(1, ".1.", "2.2", ".1."), 0);
        CHECK.same("two each of two, need 2", next(2, ".1.", "1.2", ".2."), 0);
        CHECK.same("two and one", next(1, ".4.", "4.2", "..."), 4);
        CHECK.same("two and one and one", next(1, ".3.", "4.2", ".3."), 3);
        CHECK.same("two and one and one, need 2", next(2, ".3.", "4.3", ".2."), 3);
        CHECK.same("three and one", next(1, ".2.", "2.2", ".1."), 2);
        CHECK.same("one each, with its own", next(1, ".1.", ".12", "..."), 1);
    }

    private static void atLeastAsManyAsTheNeed() {
        String[][] maps = {{"...", "..1", "..."}, {".1.", "..1", "..."}, {".1.", "1.1", "..."}, {".1.", "1.1", ".1."}};
        for (int have = 1; have <= 4; have++) {
            for (int need = 1; need <= 4; need++) {
                CHECK.same(have + " neighbours, need " + need, next(need, maps[have - 1]), have >= need ? 1 : 0);
            }
        }
        CHECK.same("three and one, need 4", next(4, ".2.", "2.2", ".1."), 0);
        CHECK.same("two and two, need 4", next(4, ".1.", "1.2", ".2."), 0);
    }

    private static void otherwiseItStays() {
        CHECK.same("a coloured cell, too few", next(3, ".1.", "131", ".2."), 1);
        CHECK.same("a coloured cell, need 4", next(4, ".1.", "131", ".2."), 3);
        CHECK.same("a coloured cell among bare ones", next(1, "...", ".4.", "..."), 4);
        CHECK.same("a coloured cell, as many of two", next(1, ".1.", "242", ".1."), 4);
        CHECK.same("it takes another one's colour", next(4, ".1.", "121", ".1."), 1);
    }

    private static int next(int need, String... rows) {
        ColourTide tide = Maps.painted(need, rows);
        int next = tide.nextColour(1, 1);
        tide.pass(1);
        CHECK.same("the cell in the middle behind a wave", tide.colourAt(1, 1), next);
        return next;
    }

    private static void stubbornCellsStay() {
        ColourTide tide = Maps.painted(4, ".1.", "121", ".1.");
        tide.turnStubborn(1, 1);
        CHECK.same("nextColour of a stubborn cell", tide.nextColour(1, 1), 2);
        CHECK.same("pass counts no stubborn cell", tide.pass(1), 0);
        CHECK.same("a stubborn cell behind a wave", tide.colourAt(1, 1), 2);
        tide.paint(1, 1, 0);
        tide.pass(40);
        CHECK.same("a stubborn bare cell behind 40 waves", tide.colourAt(1, 1), 0);
        tide.turnStubborn(1, 1);
        CHECK.same("pass counts a cell that is no longer stubborn", tide.pass(1), 1);
        CHECK.same("no longer stubborn", tide.colourAt(1, 1), 1);
    }

    private static void eachCellAtTheSameTime() {
        ColourTide tide = Maps.painted(1, "1....", ".....");
        tide.pass(1);
        CHECK.same("one step from the left", Maps.read(tide), "11.../1....");
        ColourTide back = Maps.painted(1, ".....", "....1");
        back.pass(1);
        CHECK.same("one step from the right", Maps.read(back), "....1/...11");
    }

    // ---- the map

    private static void paintReturnsTheColourBefore() {
        ColourTide tide = new ColourTide();
        int before = 0;
        for (int colour : new int[] {4, 3, 2, 1, 0, 0, 4, 4, 0}) {
            CHECK.same("paint over " + before, tide.paint(3, 0, colour), before);
            CHECK.same("painted", tide.colourAt(3, 0), colour);
            CHECK.same("other cells", tide.cellsOf(0), colour == 0 ? 16 : 15);
            before = colour;
        }
    }

    private static void turnStubbornTwice() {
        for (int i = 0; i < 25; i++) {
            ColourTide tide = new ColourTide();
            tide.newMap(5, 5);
            CHECK.same("turnStubborn", tide.turnStubborn(i % 5, i / 5), true);
            CHECK.same("isStubborn then", tide.isStubborn(i % 5, i / 5), true);
            CHECK.same("stubbornCells() then", tide.stubbornCells(), 1);
            CHECK.same("turnStubborn again", tide.turnStubborn(i % 5, i / 5), false);
            CHECK.same("isStubborn again", tide.isStubborn(i % 5, i / 5), false);
            CHECK.same("stubbornCells() again", tide.stubbornCells(), 0);
        }
    }

    private static void setNeedReturnsTheOneBefore() {
        ColourTide tide = new ColourTide();
        int before = 2;
        for (int need : new int[] {1, 4, 4, 3, 2, 1}) {
            CHECK.same("setNeed(" + need + ")", tide.setNeed(need), before);
            CHECK.same("need()", tide.need(), need);
            before = need;
        }
    }

    private static void passReturnsTheLastWaveAlone() {
        int[] due = {2, 3, 4, 5, 4, 3, 2, 1, 0, 0};
        for (int waves = 1; waves <= due.length; waves++) {
            CHECK.same("pass(" + waves + ") from a corner", Maps.painted(1, FROM_A_CORNER).pass(waves), due[waves - 1]);
        }
        CHECK.same("pass(1) of a bare map", new ColourTide().pass(1), 0);
        CHECK.same("pass(40) of all cells", Maps.painted(1, CHESSBOARD).pass(40), 25);
    }

    private static void oneAndFortyWavesPass() {
        String[] rows = {"121", "212", "121"};
        ColourTide once = Maps.painted(2, rows);
        once.pass(1);
        CHECK.same("behind 1 wave", Maps.read(once), "212/121/212");
        ColourTide often = Maps.painted(2, rows);
        often.pass(40);
        CHECK.same("behind 40 waves", Maps.read(often), "121/212/121");
        CHECK.same("waves() behind 40 waves", often.waves(), 40);
        often.pass(39);
        CHECK.same("behind 79 waves", Maps.read(often), "212/121/212");
        CHECK.same("waves() behind 79 waves", often.waves(), 79);
    }

    private static void bareNoMoreBehindWaves() {
        int[] bare = {24, 22, 19, 15, 10, 6, 3, 1, 0, 0};
        ColourTide tide = Maps.painted(1, FROM_A_CORNER);
        for (int waves = 1; waves < bare.length; waves++) {
            CHECK.same("cellsAfter(" + waves + ", 0)", Maps.painted(1, FROM_A_CORNER).cellsAfter(waves, 0), bare[waves]);
            tide.pass(1);
            CHECK.same("cellsOf(0) behind waves", tide.cellsOf(0), bare[waves]);
            CHECK.sameDouble("share(0) behind waves", tide.share(0), bare[waves] / 25.0);
        }
        CHECK.same("neighboursWith(2, 2, 0) behind waves", tide.neighboursWith(2, 2, 0), 0);
        CHECK.same("neighboursWith(2, 2, 1) behind waves", tide.neighboursWith(2, 2, 1), 4);
    }

    // ---- cells and the whole map

    private static void nextColourBare() {
        ColourTide tide = Maps.painted(2, "1.", "..");
        CHECK.same("nextColour of a bare cell that stays", tide.nextColour(1, 1), 0);
        CHECK.same("nextColour of a bare cell, one neighbour of two", tide.nextColour(1, 0), 0);
        tide.setNeed(1);
        CHECK.same("nextColour of a bare cell that does not", tide.nextColour(1, 0), 1);
        CHECK.same("nextColour changes nothing", Maps.read(tide), "1./..");
    }

    private static void regionSizeOfABareCell() {
        CHECK.same("regionSize on a bare map", new ColourTide().regionSize(0, 0), 0);
        ColourTide tide = Maps.painted(2, "44", "4.");
        CHECK.same("regionSize of a bare cell", tide.regionSize(1, 1), 0);
        CHECK.same("regionSize beside it", tide.regionSize(0, 1), 3);
    }

    private static void regionsHangTogetherByNeighbours() {
        ColourTide chess = Maps.painted(2, CHESSBOARD);
        ColourTide full = Maps.painted(2, "33333", "33333", "33333", "33333", "33333");
        for (int i = 0; i < 25; i++) {
            CHECK.same("regionSize on a chessboard", chess.regionSize(i % 5, i / 5), 1);
            CHECK.same("regionSize on a full map", full.regionSize(i % 5, i / 5), 25);
        }
        ColourTide rows = Maps.painted(2, "....1", "1....", "....1", "1....");
        CHECK.same("regionSize, rows do not join", rows.regionSize(4, 0), 1);
        CHECK.same("regionsOf, rows do not join", rows.regionsOf(1), 4);
        CHECK.same("greatestRegion, rows do not join", rows.greatestRegion(1), 1);
        ColourTide spiral = Maps.painted(2, "11111", "22221", "11121", "12221", "11111");
        CHECK.same("regionSize along a spiral", spiral.regionSize(2, 2), 17);
        CHECK.same("regionSize along the other one", spiral.regionSize(0, 1), 8);
    }

    private static void noRegionAndManyRegions() {
        ColourTide bare = new ColourTide();
        for (int colour = 1; colour <= 4; colour++) {
            CHECK.same("regionsOf on a bare map", bare.regionsOf(colour), 0);
            CHECK.same("greatestRegion on a bare map", bare.greatestRegion(colour), 0);
        }
        ColourTide chess = Maps.painted(2, CHESSBOARD);
        CHECK.same("regionsOf(1) on a chessboard", chess.regionsOf(1), 13);
        CHECK.same("regionsOf(2) on a chessboard", chess.regionsOf(2), 12);
        CHECK.same("greatestRegion(1) on a chessboard", chess.greatestRegion(1), 1);
        ColourTide full = Maps.painted(2, "44444", "44444", "44444", "44444", "44444");
        CHECK.same("regionsOf(4) on a full map", full.regionsOf(4), 1);
        CHECK.same("greatestRegion(4) on a full map", full.greatestRegion(4), 25);
        CHECK.same("regionsOf(1) on a full map", full.regionsOf(1), 0);
        CHECK.same("greatestRegion(1) on a full map", full.greatestRegion(1), 0);
    }

    private static void oneRegionOfOneCell() {
        for (int i = 0; i < 25; i++) {
            ColourTide tide = new ColourTide();
            tide.newMap(5, 5);
            tide.paint(i % 5, i / 5, 3);
            CHECK.same("regionSize of one cell", tide.regionSize(i % 5, i / 5), 1);
            CHECK.same("regionsOf of one cell", tide.regionsOf(3), 1);
            CHECK.same("greatestRegion of one cell", tide.greatestRegion(3), 1);
        }
    }

    private static void greatestRegionFirstOrLast() {
        CHECK.same("greatestRegion, the first", Maps.painted(2, "111.1", ".....", "11..1").greatestRegion(1), 3);
        CHECK.same("greatestRegion, in the middle", Maps.painted(2, "11..1", ".....", "111.1").greatestRegion(1), 3);
        CHECK.same("greatestRegion, the last", Maps.painted(2, "11.1.", ".....", "1.111").greatestRegion(1), 3);
        CHECK.same("greatestRegion, of several", Maps.painted(2, "11.11", ".....", "11.11").greatestRegion(1), 2);
    }

    private static void bordersOfColoursAlone() {
        CHECK.same("borders() of a bare map", new ColourTide().borders(), 0);
        CHECK.same("borders() with bare cells", Maps.painted(2, "1.2", ".3.").borders(), 0);
        for (int colour = 1; colour <= 4; colour++) {
            ColourTide tide = new ColourTide();
            fill(tide, colour);
            CHECK.same("borders() where all are " + colour, tide.borders(), 0);
        }
        CHECK.same("borders() aslant", Maps.painted(2, "1.", ".2").borders(), 0);
        CHECK.same("borders() beside", Maps.painted(2, "12", "..").borders(), 1);
        CHECK.same("borders() below", Maps.painted(2, ".1", ".2").borders(), 1);
        CHECK.same("borders(), rows do not join", Maps.painted(2, "....1", "2....").borders(), 0);
        CHECK.same("borders() of a chessboard", Maps.painted(2, CHESSBOARD).borders(), 40);
    }

    private static void leaderOfSeveral() {
        CHECK.same("leader() of all four", Maps.painted(2, "43", "21").leader(), 1);
        CHECK.same("leader() of 2 to 4", Maps.painted(2, "43", "2.").leader(), 2);
        CHECK.same("leader() of 3 and 4", Maps.painted(2, "43", "..").leader(), 3);
        CHECK.same("leader() with one more", Maps.painted(2, "432", "41.").leader(), 4);
        CHECK.same("leader() of fewer than are bare", Maps.painted(2, "4...", "....").leader(), 4);
    }

    private static void noLeaderIfAllAreBare() {
        CHECK.same("leader() of a bare map", new ColourTide().leader(), 0);
        ColourTide tide = Maps.painted(2, "2.", "..");
        CHECK.same("leader() of one cell", tide.leader(), 2);
        tide.paint(0, 0, 0);
        CHECK.same("leader() of none any more", tide.leader(), 0);
    }

    private static void isStillByOneCell() {
        ColourTide tide = Maps.painted(4, "222", "212", "222");
        CHECK.same("isStill() with one cell that would change", tide.isStill(), false);
        tide.turnStubborn(1, 1);
        CHECK.same("isStill() with it stubborn", tide.isStill(), true);
        CHECK.same("isStill() of a bare map", new ColourTide().isStill(), true);
        CHECK.same("isStill() with the last cell to change", Maps.painted(2, "11", "1.").isStill(), false);
        CHECK.same("isStill() with the first cell to change", Maps.painted(2, ".1", "11").isStill(), false);
        CHECK.same("isStill() of cells that take what they have", Maps.painted(1, "44", "44").isStill(), true);
    }

    private static void noWinner() {
        CHECK.same("winner() of a bare map", new ColourTide().winner(), 0);
        CHECK.same("winner() but for the last cell", Maps.painted(2, "11", "1.").winner(), 0);
        CHECK.same("winner() but for the first cell", Maps.painted(2, ".1", "11").winner(), 0);
        CHECK.same("winner() but for another colour", Maps.painted(2, "44", "43").winner(), 0);
    }

    private static void winnerOfEachColour() {
        for (int i = 0; i < 16; i++) {
            for (int colour = 1; colour <= 4; colour++) {
                ColourTide tide = new ColourTide();
                tide.newMap(2 + i % 4, 2 + i / 4);
                fill(tide, colour);
                CHECK.same("winner() of all cells", tide.winner(), colour);
            }
        }
    }

    private static void fill(ColourTide tide, int colour) {
        for (int y = 0; y < tide.height(); y++) {
            for (int x = 0; x < tide.width(); x++) {
                tide.paint(x, y, colour);
            }
        }
    }

    // ---- what would be

    private static void stillNowOrBehindAWave() {
        CHECK.same("wavesUntilStill() of a bare map", new ColourTide().wavesUntilStill(), 0);
        CHECK.same("wavesUntilStill() of a winner", Maps.painted(1, "11", "11").wavesUntilStill(), 0);
        CHECK.same("wavesUntilStill() behind a wave", Maps.painted(2, "11", "1.").wavesUntilStill(), 1);
        CHECK.same("wavesUntilStill() behind two", Maps.painted(1, "1.", "..").wavesUntilStill(), 2);
    }

    // Found by a search: without the waves passed before, it is still behind 42 waves.
    private static void stillBehindFortyWavesAtMost() {
        for (int passed = 1; passed <= 42; passed++) {
            ColourTide tide = Maps.painted(1, "23312", "33132", "31203", "10010", "43212");
            turnStubborn(tide, 0, 0, 4, 0, 2, 2, 2, 4);
            for (int i = 0; i < passed; i++) {
                tide.pass(1);
            }
            int left = 42 - passed;
            CHECK.same("wavesUntilStill(), " + left + " are left", tide.wavesUntilStill(), left > 40 ? -1 : left);
            CHECK.same("isStill(), " + left + " are left", tide.isStill(), left == 0);
        }
        CHECK.same("wavesUntilStill() of a turning map", Maps.painted(2, CHESSBOARD).wavesUntilStill(), -1);
    }

    private static void turnStubborn(ColourTide tide, int... columnsAndRows) {
        for (int i = 0; i < columnsAndRows.length; i += 2) {
            tide.turnStubborn(columnsAndRows[i], columnsAndRows[i + 1]);
        }
    }

    private static void cellsAfterOneAndFortyWaves() {
        ColourTide tide = Maps.painted(2, "121", "212", "121");
        for (int waves = 1; waves <= 40; waves++) {
            CHECK.same("cellsAfter(" + waves + ", 1)", tide.cellsAfter(waves, 1), waves % 2 == 0 ? 5 : 4);
            CHECK.same("cellsAfter(" + waves + ", 2)", tide.cellsAfter(waves, 2), waves % 2 == 0 ? 4 : 5);
            CHECK.same("cellsAfter(" + waves + ", 0)", tide.cellsAfter(waves, 0), 0);
        }
        CHECK.same("cellsAfter(40, 0) of a bare map", new ColourTide().cellsAfter(40, 0), 16);
        CHECK.same("cellsAfter(1, 4) of a bare map", new ColourTide().cellsAfter(1, 4), 0);
    }

    private static void winsBehindNoWaves() {
        for (int colour = 1; colour <= 4; colour++) {
            for (int other = 1; other <= 4; other++) {
                ColourTide tide = new ColourTide();
                fill(tide, colour);
                CHECK.same("wins(" + other + ") where all are " + colour, tide.wins(other), other == colour);
            }
            CHECK.same("wins on a bare map", new ColourTide().wins(colour), false);
        }
    }

    // Found by a search: the first cells of each map win behind 9, 10 and 11 waves.
    private static void winsBehindEightWavesAtMost() {
        CHECK.same("wins, just behind 8 waves", Maps.painted(1, FROM_A_CORNER).wins(1), true);
        winsAWaveBeyondEight(9, Maps.painted(1, "123.", "32.1", "1331", "3131"));
        winsAWaveBeyondEight(10, Maps.painted(2, ".1...", "...1.", "....1", "..1..", "1...."));
        winsAWaveBeyondEight(11, Maps.painted(1, "222..", "11.1.", "3.2.3"));
    }

    private static void winsAWaveBeyondEight(int waves, ColourTide tide) {
        int all = tide.width() * tide.height();
        CHECK.same("not all cells behind one wave less", tide.cellsAfter(waves - 1, 1) < all, true);
        CHECK.same("all cells behind " + waves + " waves", tide.cellsAfter(waves, 1), all);
        for (int left = waves; left > 8; left--) {
            CHECK.same("wins, just behind " + left + " waves", tide.wins(1), false);
            tide.pass(1);
        }
        CHECK.same("wins, 8 waves left", tide.wins(1), true);
    }

    private static void fewestSeedsNone() {
        for (int colour = 1; colour <= 4; colour++) {
            ColourTide tide = new ColourTide();
            fill(tide, colour);
            CHECK.same("fewestSeeds of a winner", tide.fewestSeeds(colour), 0);
        }
        CHECK.same("fewestSeeds, just behind 8 waves", Maps.painted(1, FROM_A_CORNER).fewestSeeds(1), 0);
    }

    private static void fewestSeedsOneOrTwo() {
        for (int i = 0; i < 25; i++) {
            for (int j = 0; j < 25; j++) {
                ColourTide tide = Maps.painted(4, "11111", "11111", "11111", "11111", "11111");
                tide.paint(i % 5, i / 5, 2);
                tide.paint(j % 5, j / 5, 2);
                turnStubborn(tide, i % 5, i / 5);
                if (j != i) {
                    turnStubborn(tide, j % 5, j / 5);
                }
                CHECK.same("fewestSeeds, cells " + i + " and " + j, tide.fewestSeeds(1), i == j ? 1 : 2);
            }
        }
        ColourTide bare = new ColourTide();
        bare.setNeed(1);
        CHECK.same("fewestSeeds on a bare map, need 1", bare.fewestSeeds(4), 1);
    }

    private static void fewestSeedsTooFew() {
        CHECK.same("fewestSeeds on a bare map", new ColourTide().fewestSeeds(1), -1);
        ColourTide tide = Maps.painted(1, "...", "...", "...");
        turnStubborn(tide, 0, 0, 1, 1, 2, 2);
        CHECK.same("fewestSeeds, three stubborn cells", tide.fewestSeeds(1), -1);
        tide.paint(1, 1, 1);
        CHECK.same("fewestSeeds, two of them left", tide.fewestSeeds(1), 2);
        tide.paint(2, 2, 1);
        CHECK.same("fewestSeeds, one of them left", tide.fewestSeeds(1), 1);
        tide.paint(0, 0, 1);
        CHECK.same("fewestSeeds, none of them left", tide.fewestSeeds(1), 0);
    }

    // Found by a search: just behind 8 waves one or two seeds win, or just behind 9.
    private static void fewestSeedsBehindEightWavesAtMost() {
        ColourTide none = Maps.painted(1, "123.", "32.1", "1331", "3131");
        CHECK.same("fewestSeeds, none behind 9 waves", none.fewestSeeds(1) > 0, true);
        ColourTide one = Maps.painted(1, "...", "312", ".31", "..2", "123");
        CHECK.same("fewestSeeds, one behind 8 waves", one.fewestSeeds(1), 1);
        ColourTide oneTooLate = Maps.painted(1, "1....", "2....", "..3..");
        CHECK.same("fewestSeeds, one behind 9 waves", oneTooLate.fewestSeeds(1), 2);
        ColourTide two = Maps.painted(1, "12211", "1.2.1", "12221", "22122", "12112");
        CHECK.same("fewestSeeds, two behind 8 waves", two.fewestSeeds(1), 2);
        ColourTide twoTooLate = Maps.painted(2, "2.221", ".212.", ".....");
        CHECK.same("fewestSeeds, two behind 9 waves", twoTooLate.fewestSeeds(1), -1);
    }

    private static void bestCellOfSeveral() {
        for (int i = 0; i < 16; i++) {
            ColourTide tide = new ColourTide();
            tide.newMap(2 + i % 4, 2 + i / 4);
            CHECK.same("bestCell of all, need 2", tide.bestCell(3, 5), 0);
        }
        // The columns 1 and 3 and the rows 1 and 3 are as good: the row counts before the column.
        ColourTide tide = Maps.painted(1, ".....", ".....", ".....", ".....", ".....");
        CHECK.same("bestCell of the inner ones", tide.bestCell(1, 1), 6);
        CHECK.same("bestCell of one", tide.bestCell(1, 2), 12);
        ColourTide apart = Maps.painted(4, "1112", "1111", "2111");
        CHECK.same("bestCell, above right or below left", apart.bestCell(1, 1), 3);
        CHECK.same("bestCell of none that adds", Maps.painted(4, "11", "11").bestCell(1, 1), 0);
    }

    private static void bestCellNumber() {
        for (int i = 0; i < 16; i++) {
            int w = 2 + i % 4;
            int h = 2 + i / 4;
            for (int cell = 0; cell < w * h; cell++) {
                ColourTide tide = new ColourTide();
                tide.newMap(w, h);
                fill(tide, 4);
                tide.paint(cell % w, cell / w, 3);
                turnStubborn(tide, cell % w, cell / w);
                CHECK.same("bestCell on " + w + " by " + h, tide.bestCell(4, 24), cell);
            }
        }
    }

    // Found by a search: which cell is best changes from each wave to the next.
    private static void bestCellBehindOneAndTwentyFourWaves() {
        ColourTide tide = Maps.painted(1, "121", "21.", "222");
        for (int waves = 1; waves <= 24; waves++) {
            CHECK.same("bestCell(1, " + waves + ")", tide.bestCell(1, waves), waves % 2 == 0 ? 6 : 1);
        }
        ColourTide other = Maps.painted(1, ".22", "212", "121");
        for (int waves = 1; waves <= 24; waves++) {
            CHECK.same("bestCell(1, " + waves + ") of another", other.bestCell(1, waves), waves % 2 == 0 ? 0 : 7);
        }
    }

    private static void shareOfNoneAndAll() {
        for (int i = 0; i < 16; i++) {
            ColourTide tide = new ColourTide();
            tide.newMap(2 + i % 4, 2 + i / 4);
            int all = tide.width() * tide.height();
            for (int cell = 0; cell < all; cell++) {
                CHECK.sameDouble("share(2) of " + cell + " in " + all, tide.share(2), (double) cell / all);
                CHECK.sameDouble("share(0) of " + (all - cell) + " in " + all, tide.share(0), (double) (all - cell) / all);
                tide.paint(cell % tide.width(), cell / tide.width(), 2);
            }
            CHECK.sameDouble("share(2) of all", tide.share(2), 1.0);
            CHECK.sameDouble("share(0) of none", tide.share(0), 0.0);
        }
    }

    // ---- the digest

    private static void digestWrapsAround() {
        CHECK.same("digest() of a new object", new ColourTide().digest(), wrapped(new ColourTide()));
        boolean below = false;
        boolean above = false;
        for (int i = 0; i < 16; i++) {
            int w = 2 + i % 4;
            int h = 2 + i / 4;
            for (int painted = 1; painted <= w * h; painted++) {
                ColourTide tide = paintedAndStubborn(w, h, painted, i);
                CHECK.same("digest()", tide.digest(), wrapped(tide));
                below |= tide.digest() < 0;
                above |= tide.digest() > 0;
            }
        }
        CHECK.same("digests below and above 0", below && above, true);
    }

    private static ColourTide paintedAndStubborn(int w, int h, int cells, int shift) {
        ColourTide tide = new ColourTide();
        tide.newMap(w, h);
        for (int cell = 0; cell < cells; cell++) {
            tide.paint(cell % w, cell / w, (cell * 7 + shift) % 5);
            if (cell % 3 == 0) {
                turnStubborn(tide, cell % w, cell / w);
            }
        }
        return tide;
    }

    private static void digestTellsNeedAndWaves() {
        for (int need = 1; need <= 4; need++) {
            ColourTide tide = Maps.painted(need, "1.2", "213");
            CHECK.same("digest(), need " + need, tide.digest(), wrapped(tide));
            tide.pass(40);
            CHECK.same("digest() behind waves, need " + need, tide.digest(), wrapped(tide));
            tide.setNeed(5 - need);
            CHECK.same("digest(), another need than " + need, tide.digest(), wrapped(tide));
        }
    }

    private static void digestCountsWhetherSomethingIsSo() {
        ColourTide still = Maps.painted(2, "1.", "..");
        CHECK.same("digest() of a still map", still.digest(), wrapped(still));
        ColourTide moving = Maps.painted(2, "1.", ".1");
        CHECK.same("digest() of a map that is not still", moving.digest(), wrapped(moving));
        turnStubborn(moving, 1, 1);
        CHECK.same("digest() with a stubborn cell", moving.digest(), wrapped(moving));
    }

    /** The digest by numbers without an end, cut to 64 bits at last, of what the other calls answer. */
    private static long wrapped(ColourTide tide) {
        List<Integer> numbers = new ArrayList<>(List.of(tide.width(), tide.height(), tide.need(), tide.waves(),
                tide.stubbornCells(), tide.borders(), tide.leader(), tide.isStill() ? 1 : 0, tide.winner()));
        for (int colour = 1; colour <= 4; colour++) {
            numbers.addAll(List.of(tide.cellsOf(colour), tide.regionsOf(colour), tide.greatestRegion(colour)));
        }
        for (int y = 0; y < tide.height(); y++) {
            for (int x = 0; x < tide.width(); x++) {
                numbers.addAll(List.of(tide.colourAt(x, y), tide.isStubborn(x, y) ? 1 : 0,
                        tide.nextColour(x, y), tide.regionSize(x, y)));
            }
        }
        BigInteger d = BigInteger.valueOf(1871);
        for (int number : numbers) {
            d = d.multiply(BigInteger.valueOf(31)).add(BigInteger.valueOf(number));
        }
        return d.longValue();
    }
}
