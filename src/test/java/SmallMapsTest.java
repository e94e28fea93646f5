/**
 * Every map of 2 by 2, and every neighbourhood of a cell with 2, 3 and 4 neighbours, compared with
 * the plain model: what is seen on great maps by chance is seen here without a gap.
 */
public final class SmallMapsTest {
    private static final Check CHECK = new Check();

    public static void main(String[] args) {
        everyNeighbourhood(2, 2, 0, 0);
        everyNeighbourhood(3, 2, 1, 0);
        everyNeighbourhood(3, 3, 1, 1);
        everyMapOfTwoByTwo();
        CHECK.end();
    }

    // ---- the wave, cell by cell

    /** The cell's colour behind a wave, for each colour of its own and of its neighbours. */
    private static void everyNeighbourhood(int w, int h, int x, int y) {
        int[][] cells = {{x, y}, {x + 1, y}, {x, y + 1}, {x - 1, y}, {x, y - 1}};
        for (int number = 0; number < 5 * 5 * 5 * 5 * 5; number++) {
            boolean besideTheMap = false;
            PlainModel model = new PlainModel();
            model.newMap(w, h);
            int rest = number;
            for (int[] cell : cells) {
                if (model.has(cell[0], cell[1])) {
                    model.colour[cell[1]][cell[0]] = rest % 5;
                } else {
                    besideTheMap |= rest % 5 != 0;
                }
                rest /= 5;
            }
            // With a colour beside the map it is the same neighbourhood as without.
            if (!besideTheMap) {
                cellForEachNeed(model, x, y, "neighbourhood " + number + " on " + w + " by " + h);
            }
        }
    }

    private static void cellForEachNeed(PlainModel model, int x, int y, String what) {
        for (int need = 1; need <= 4; need++) {
            for (int turned = 0; turned <= 1; turned++) {
                model.need = need;
                model.stubborn[y][x] = turned == 1;
                ColourTide tide = alike(model);
                int due = model.nextColour(x, y);
                CHECK.same(what + ", need " + need + ": nextColour", tide.nextColour(x, y), due);
                tide.pass(1);
                CHECK.same(what + ", need " + need + ": colourAt", tide.colourAt(x, y), due);
            }
        }
    }

    private static ColourTide alike(PlainModel model) {
        ColourTide tide = new ColourTide();
        tide.newMap(model.w, model.h);
        tide.setNeed(model.need);
        for (int y = 0; y < model.h; y++) {
            for (int x = 0; x < model.w; x++) {
                tide.paint(x, y, model.colour[y][x]);
                if (model.stubborn[y][x]) {
                    tide.turnStubborn(x, y);
                }
            }
        }
        return tide;
    }

    // ---- all answers of small maps

    private static void everyMapOfTwoByTwo() {
        for (int number = 0; number < 5 * 5 * 5 * 5 * 16 * 4; number++) {
            PlainModel model = new PlainModel();
            model.newMap(2, 2);
            int rest = number;
            boolean oneOrTwo = true;
            for (int cell = 0; cell < 4; cell++) {
                oneOrTwo &= rest % 5 <= 2;
                model.colour[cell / 2][cell % 2] = rest % 5;
                rest /= 5;
            }
            for (int cell = 0; cell < 4; cell++) {
                model.stubborn[cell / 2][cell % 2] = rest % 2 == 1;
                rest /= 2;
            }
            model.need = 1 + rest;
            ColourTide tide = alike(model);
            CHECK.same("map " + number + ": digest", tide.digest(), model.digest());
            // What would be takes the model long: two colours show it as well as four.
            if (oneOrTwo) {
                whatWouldBe(tide, model, "map " + number);
            }
        }
    }

    private static void whatWouldBe(ColourTide tide, PlainModel model, String what) {
        CHECK.same(what + ": wavesUntilStill", tide.wavesUntilStill(), model.wavesUntilStill());
        for (int colour = 1; colour <= 3; colour++) {
            String which = what + ", colour " + colour;
            CHECK.same(which + ": wins", tide.wins(colour), model.wins(colour));
            CHECK.same(which + ": fewestSeeds", tide.fewestSeeds(colour), model.fewestSeeds(colour));
            for (int waves = 1; waves <= 3; waves++) {
                CHECK.same(which + ": cellsAfter", tide.cellsAfter(waves, colour), model.cellsAfter(waves, colour));
                CHECK.same(which + ": bestCell", tide.bestCell(colour, waves), model.bestCell(colour, waves));
            }
        }
    }
}
