/** Objects with a LAND, told by a text. */
final class Lands {
    private Lands() {
    }

    static void write(ShyStrip x, int t, String text) {
        x.text(t, text.length());
        for (int i = 0; i < text.length(); i++) {
            x.put(t, i, text.charAt(i));
        }
    }

    static ShyStrip of(String text) {
        ShyStrip x = new ShyStrip();
        Lands.write(x, 0, text);
        x.land(0);
        return x;
    }

    static void papers(ShyStrip x, int r, int... places) {
        x.row(r, places.length);
        for (int i = 0; i < places.length; i++) {
            x.lay(r, i, places[i]);
        }
    }

    /** The places of a ROW as figures of one number, by ten a place, for short tests. */
    static long figures(ShyStrip x, int r, int n) {
        long told = 0;
        for (int i = 0; i < n; i++) {
            x.at(r, i);
            told = told * 10 + x.asked();
        }
        return told;
    }
}
