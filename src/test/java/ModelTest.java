/** Long runs of calls with fixed seeds, each answer compared with the plain model's. */
public final class ModelTest {
    private static final int RUNS = 400;
    private static final int CALLS_OF_AN_OBJECT = 512;
    private static final int CALLS_OF_ASKING = 23;

    private static final Check CHECK = new Check();
    private static long state;

    public static void main(String[] args) {
        for (int run = 1; run <= RUNS; run++) {
            state = run * 7919L;
            compare("run " + run, run % 4 != 0);
        }
        CHECK.end();
    }

    // Steps of a linear congruence: the same numbers each time.
    private static int draw(int bound) {
        state = state * 6364136223846793005L + 1442695040888963407L;
        return (int) ((state >>> 33) % bound);
    }

    private static void compare(String run, boolean fewColours) {
        ColourTide tide = new ColourTide();
        PlainModel model = new PlainModel();
        int calls = 0;
        while (calls + CALLS_OF_ASKING + 1 <= CALLS_OF_AN_OBJECT) {
            String what = run + ", behind " + calls + " calls";
            if (draw(10) < 7) {
                change(what, tide, model, fewColours ? 2 : 4);
                calls += 2;
            } else {
                ask(what, tide, model);
                calls += CALLS_OF_ASKING + 1;
            }
            CHECK.same(what + ": digest()", tide.digest(), model.digest());
        }
    }

    private static void change(String what, ColourTide tide, PlainModel model, int colours) {
        int x = draw(model.w);
        int y = draw(model.h);
        switch (draw(40)) {
            case 0:
                int w = 2 + draw(4);
                int h = 2 + draw(4);
                model.newMap(w, h);
                CHECK.same(what + ": newMap", tide.newMap(w, h), w * h);
                break;
            case 1:
            case 2:
                int need = 1 + draw(4);
                CHECK.same(what + ": setNeed", tide.setNeed(need), model.need);
                model.need = need;
                break;
            case 3:
            case 4:
            case 5:
                model.stubborn[y][x] = !model.stubborn[y][x];
                CHECK.same(what + ": turnStubborn", tide.turnStubborn(x, y), model.stubborn[y][x]);
                break;
            case 6:
            case 7:
            case 8:
            case 9:
                int waves = 1 + draw(draw(3) == 0 ? 40 : 3);
                CHECK.same(what + ": pass", tide.pass(waves), model.pass(waves));
                break;
            default:
                int colour = draw(12) == 0 ? 0 : 1 + draw(colours);
                CHECK.same(what + ": paint", tide.paint(x, y, colour), model.colour[y][x]);
                model.colour[y][x] = colour;
                break;
        }
    }

    private static void ask(String what, ColourTide tide, PlainModel model) {
        int c = 1 + draw(4);
        int c0 = draw(5);
        int x = draw(model.w);
        int y = draw(model.h);
        int waves = 1 + draw(40);
        int fewWaves = 1 + draw(draw(2) == 0 ? 24 : 4);
        CHECK.same(what + ": width", tide.width(), model.w);
        CHECK.same(what + ": height", tide.height(), model.h);
        CHECK.same(what + ": need", tide.need(), model.need);
        CHECK.same(what + ": waves", tide.waves(), model.waves);
        CHECK.same(what + ": stubbornCells", tide.stubbornCells(), model.stubbornCells());
        CHECK.same(what + ": colourAt", tide.colourAt(x, y), model.colour[y][x]);
        CHECK.same(what + ": isStubborn", tide.isStubborn(x, y), model.stubborn[y][x]);
        CHECK.same(what + ": neighboursWith", tide.neighboursWith(x, y, c0), model.neighboursWith(x, y, c0));
        CHECK.same(what + ": nextColour", tide.nextColour(x, y), model.nextColour(x, y));
        CHECK.same(what + ": regionSize", tide.regionSize(x, y), model.regionSize(x, y));
        CHECK.same(what + ": cellsOf", tide.cellsOf(c0), model.cellsOf(c0));
        CHECK.same(what + ": regionsOf", tide.regionsOf(c), model.regionsOf(c));
        CHECK.same(what + ": greatestRegion", tide.greatestRegion(c), model.greatestRegion(c));
        CHECK.same(what + ": borders", tide.borders(), model.borders());
        CHECK.same(what + ": leader", tide.leader(), model.leader());
        CHECK.same(what + ": isStill", tide.isStill(), model.isStill());
        CHECK.same(what + ": winner", tide.winner(), model.winner());
        CHECK.same(what + ": wavesUntilStill", tide.wavesUntilStill(), model.wavesUntilStill());
        CHECK.same(what + ": cellsAfter", tide.cellsAfter(waves, c0), model.cellsAfter(waves, c0));
        CHECK.same(what + ": wins", tide.wins(c), model.wins(c));
        if (draw(8) == 0) {
            CHECK.same(what + ": fewestSeeds", tide.fewestSeeds(c), model.fewestSeeds(c));
        }
        CHECK.same(what + ": bestCell", tide.bestCell(c, fewWaves), model.bestCell(c, fewWaves));
        CHECK.sameDouble(what + ": share", tide.share(c0), (double) model.cellsOf(c0) / (model.w * model.h));
    }
}
