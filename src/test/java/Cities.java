import java.nio.charset.StandardCharsets;

/** Cities for the tests, texts for their tapes, and all that can be seen of one. */
final class Cities {
    /** A law of 15 bytes by which a cost tells what is done in each hour; five bytes behind it. */
    static final String SHORT = "p1+d*2+h*3(1=1)" + ".....";
    /** A law of 240 bytes, and twenty behind it: as much as a tape can hold. */
    static final String LONG = "p10+d*2+h*3" + "+0".repeat(112) + "(1=1)" + ".".repeat(20);

    private Cities() {
    }

    /** So many feeds as can hold the bytes, 0 behind them. */
    static void feed(StruckBeats x, int... bytes) {
        for (int at = 0; at < bytes.length; at += 20) {
            int[] words = new int[5];
            for (int i = 0; i < 20; i++) {
                int b = at + i < bytes.length ? bytes[at + i] : 0;
                words[i / 4] = words[i / 4] << 8 | b & 255;
            }
            x.feed(words[0], words[1], words[2], words[3], words[4]);
        }
    }

    static void feed(StruckBeats x, String text) {
        byte[] bytes = text.getBytes(StandardCharsets.ISO_8859_1);
        int[] numbers = new int[bytes.length];
        for (int i = 0; i < bytes.length; i++) {
            numbers[i] = bytes[i] & 255;
        }
        feed(x, numbers);
    }

    /** Two bytes each, the higher first. */
    static int[] bytes(int... words) {
        int[] bytes = new int[2 * words.length];
        for (int i = 0; i < words.length; i++) {
            bytes[2 * i] = words[i] >> 8;
            bytes[2 * i + 1] = words[i] & 255;
        }
        return bytes;
    }

    static int law(StruckBeats x, String text) {
        feed(x, text);
        return x.law(text.length());
    }

    static int routine(StruckBeats x, int p, String text) {
        feed(x, text);
        return x.routine(p, text.length());
    }

    static int ledger(StruckBeats x, String text) {
        feed(x, text);
        return x.ledger(text.length());
    }

    /** So many people from the first on, each of so many beats, at age 0. */
    static StruckBeats of(int people, int beats) {
        StruckBeats x = new StruckBeats();
        for (int p = 0; p < people; p++) {
            x.person(p, beats, 0);
        }
        return x;
    }

    /** X after so many draws. */
    static int drawn(int seed, int draws) {
        long x = seed;
        for (int i = 0; i < draws; i++) {
            x = (25173 * x + 13849) % 65536;
        }
        return (int) x;
    }

    /** So many loans of 1 from a to b, one behind the other. */
    static String loans(int n) {
        return "a>b1;".repeat(n - 1) + "a>b1";
    }

    /** All sixteen people, two of them dead, twenty-four loans, a law, another state kept, and the tape. */
    static StruckBeats full(String tape) {
        StruckBeats x = new StruckBeats();
        for (int p = 0; p < 16; p++) {
            x.person(p, 300000 + 7001 * p, 300 * p);
        }
        routine(x, 0, "3w2(cr)");
        routine(x, 1, "9l9f6o");
        routine(x, 5, "o");
        routine(x, 15, "2(3(2r)w)");
        StringBuilder text = new StringBuilder();
        for (int l = 0; l < 24; l++) {
            text.append(l == 0 ? "" : ";").append((char) ('a' + l * 5 % 16)).append('>').append((char) ('a' + (l * 5 + 1 + l % 7) % 16));
            text.append(l == 3 ? "900@7/50" : l == 9 ? "4/4" : "8");
        }
        ledger(x, text.toString());
        law(x, "x(k=3&h=5);x(k=7&h=9);p40+d*3+k(h<12);p70-w(k<9);p50+n(m>1);i30(k>8);i0-t(1=1)");
        x.days(1);
        x.keep();
        x.days(1);
        x.person(2, 777, 7);
        x.seed(4321);
        feed(x, tape);
        return x;
    }

    /** All that can be seen of a city, at last of its tape and of what it has kept; it is used up by that. */
    static String seen(StruckBeats x) {
        StringBuilder all = new StringBuilder();
        people(x, all, 4);
        for (int l = 0; l <= 24; l++) {
            for (int what = 0; what <= 5; what++) {
                all.append(x.loanIs(l, what)).append(' ');
            }
        }
        costs(x, all);
        for (int what = 0; what <= 2; what++) {
            all.append(x.tried(1, what)).append(' ');
        }
        int bytes = x.count(6);
        all.append(x.law(bytes >= 240 ? 240 : Math.min(bytes, 15))).append(' ');
        costs(x, all);
        all.append(x.undo()).append(' ');
        people(x, all, 2);
        for (int l = 0; l < 24; l++) {
            all.append(x.loanIs(l, 5)).append(' ');
        }
        return all.toString();
    }

    private static void people(StruckBeats x, StringBuilder all, int most) {
        for (int what = 0; what <= 8; what++) {
            all.append(x.count(what)).append(' ');
        }
        for (int p = 0; p < 16; p++) {
            for (int what = 0; what <= most; what++) {
                all.append(x.personIs(p, what)).append(' ');
            }
        }
    }

    private static void costs(StruckBeats x, StringBuilder all) {
        for (int p = 0; p < 16; p++) {
            all.append(x.costs(p, 24)).append(' ');
        }
    }
}
