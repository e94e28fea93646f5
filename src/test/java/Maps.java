/** Maps for tests, written and read row by row: a digit is a colour, '.' is bare. */
final class Maps {
    private Maps() {
    }

    static ColourTide painted(int need, String... rows) {
        ColourTide tide = new ColourTide();
        tide.newMap(rows[0].length(), rows.length);
        tide.setNeed(need);
        for (int y = 0; y < rows.length; y++) {
            for (int x = 0; x < rows[y].length(); x++) {
                char sign = rows[y].charAt(x);
                tide.paint(x, y, sign == '.' ? 0 : sign - '0');
            }
        }
        return tide;
    }

    static String read(ColourTide tide) {
        StringBuilder text = new StringBuilder();
        for (int y = 0; y < tide.height(); y++) {
            for (int x = 0; x < tide.width(); x++) {
                text.append(sign(tide.colourAt(x, y)));
            }
            text.append(y + 1 < tide.height() ? "/" : "");
        }
        return text.toString();
    }

    static String readNext(ColourTide tide) {
        StringBuilder text = new StringBuilder();
        for (int y = 0; y < tide.height(); y++) {
            for (int x = 0; x < tide.width(); x++) {
                text.append(sign(tide.nextColour(x, y)));
            }
            text.append(y + 1 < tide.height() ? "/" : "");
        }
        return text.toString();
    }

    private static char sign(int colour) {
        return colour == 0 ? '.' : (char) ('0' + colour);
    }
}
