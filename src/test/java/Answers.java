/** Each answer that a map gives to the calls that only ask, as one text: the whole map can be told by it. */
final class Answers {
    private static final int[] WAVES = {1, 2, 3, 24};

    private Answers() {
    }

    static String of(ColourTide tide) {
        StringBuilder text = new StringBuilder();
        text.append(tide.width()).append(' ').append(tide.height()).append(' ').append(tide.need());
        text.append(' ').append(tide.waves()).append(' ').append(tide.stubbornCells());
        text.append(' ').append(tide.borders()).append(' ').append(tide.leader());
        text.append(' ').append(tide.isStill()).append(' ').append(tide.winner());
        text.append(' ').append(tide.wavesUntilStill()).append(' ').append(tide.digest());
        for (int y = 0; y < tide.height(); y++) {
            for (int x = 0; x < tide.width(); x++) {
                ofCell(text.append(" |"), tide, x, y);
            }
        }
        for (int colour = 0; colour <= 4; colour++) {
            ofColour(text.append(" ||"), tide, colour);
        }
        return text.toString();
    }

    private static void ofCell(StringBuilder text, ColourTide tide, int x, int y) {
        text.append(' ').append(tide.colourAt(x, y)).append(' ').append(tide.isStubborn(x, y));
        text.append(' ').append(tide.nextColour(x, y)).append(' ').append(tide.regionSize(x, y));
        for (int colour = 0; colour <= 4; colour++) {
            text.append(' ').append(tide.neighboursWith(x, y, colour));
        }
    }

    private static void ofColour(StringBuilder text, ColourTide tide, int colour) {
        text.append(' ').append(tide.cellsOf(colour)).append(' ').append(tide.share(colour));
        text.append(' ').append(tide.cellsAfter(40, colour));
        for (int waves : WAVES) {
            text.append(' ').append(tide.cellsAfter(waves, colour));
        }
        if (colour == 0) {
            return;
        }
        text.append(' ').append(tide.regionsOf(colour)).append(' ').append(tide.greatestRegion(colour));
        text.append(' ').append(tide.wins(colour)).append(' ').append(tide.fewestSeeds(colour));
        for (int waves : WAVES) {
            text.append(' ').append(tide.bestCell(colour, waves));
        }
    }
}
