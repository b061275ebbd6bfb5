/** Benches that the boundary tests begin with, and a look at all that a bench tells. */
final class Scene {
    static final int LEAST = Integer.MIN_VALUE;
    static final int GREATEST = Integer.MAX_VALUE;

    private Scene() {
    }

    /** A lamp with lines of these colours: the line 0 of light 1, the line 1 of light 2, and so on. */
    static JoinedLight lamp(int... colours) {
        JoinedLight x = new JoinedLight();
        for (int k = 0; k < colours.length; k++) {
            x.line(colours[k], k + 1);
        }
        return x;
    }

    /** Three lines through a flint prism at 100: on the screen at 261, 239 and 216, slopes 290, 266 and 240. */
    static JoinedLight rainbow() {
        JoinedLight x = new JoinedLight();
        x.line(400, 100);
        x.line(580, 200);
        x.line(780, 50);
        x.prism(100, 1, 40, 1);
        return x;
    }

    /**
     * Two prisms at 1 and 2 give the line (colour 780, light 7) the slope 490 + 510: upward its height is its place
     * less 2 from there on, downward 1 less its place (the rise of -490 over 1 is -1), until something is added.
     */
    static JoinedLight ramp(int turned) {
        JoinedLight x = new JoinedLight();
        x.line(780, 7);
        x.prism(1, 0, 98, turned);
        x.prism(2, 1, 85, turned);
        return x;
    }

    /** As ramp(), but the slope is 495 + 594: upward at 920 the height is 999, at 921 it is 1000. */
    static JoinedLight steepRamp(int turned) {
        JoinedLight x = new JoinedLight();
        x.line(780, 7);
        x.prism(1, 0, 99, turned);
        x.prism(2, 1, 99, turned);
        return x;
    }

    /** A line of the colour 780 and light 7 that is at the given height on the screen, of -99 to 99. */
    static JoinedLight onScreenAt(int height) {
        JoinedLight x = new JoinedLight();
        x.line(780, 7);
        if (height != 0) {
            x.prism(1000 - 10 * Math.abs(height), 0, 20, height > 0 ? 1 : -1);
        }
        return x;
    }

    /** Two lines at 800 with the slopes 366 and 300: on the screen at 73 and 60. */
    static JoinedLight pair() {
        JoinedLight x = lamp(380, 780);
        x.prism(800, 1, 50, 1);
        return x;
    }

    static void write(JoinedLight x, String text) {
        for (int i = 0; i < text.length(); i++) {
            x.type(text.charAt(i));
        }
    }

    static JoinedLight written(String text) {
        JoinedLight x = new JoinedLight();
        write(x, text);
        return x;
    }

    static JoinedLight withLines(int lines) {
        JoinedLight x = new JoinedLight();
        for (int k = 0; k < lines; k++) {
            x.line(500 + k, 10 + k);
        }
        return x;
    }

    /** Prisms and slits in turns, at 100, 200 and so on. */
    static JoinedLight withThings(int things) {
        JoinedLight x = new JoinedLight();
        for (int i = 1; i <= things; i++) {
            if (i % 2 == 1) {
                x.prism(100 * i, i / 2 % 2, 10 + i, i % 4 == 1 ? 1 : -1);
            } else {
                x.slit(100 * i, -900 - i, 900 + i);
            }
        }
        return x;
    }

    /** All that the bench, the text and the size of the history are, by 74 calls that are no changes. */
    static String seen(JoinedLight x) {
        StringBuilder all = new StringBuilder();
        for (int k = 0; k < 8; k++) {
            all.append(x.lineOf(k, 0)).append(' ').append(x.lineOf(k, 1)).append(' ');
        }
        for (int i = 0; i < 8; i++) {
            for (int what = 0; what < 5; what++) {
                all.append(x.thing(i, what)).append(' ');
            }
        }
        for (int what = 0; what <= 20; what++) {
            if (what <= 12 || what == 20) {
                all.append(x.count(what)).append(' ');
            }
        }
        for (int what = 0; what < 3; what++) {
            all.append(x.fault(what)).append(' ');
        }
        return all.append(x.share()).toString();
    }
}
