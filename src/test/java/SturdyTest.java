import java.util.Random;

/** Any arguments in any state: nothing throws, all ends, and what is refused changes nothing but is told. */
public final class SturdyTest {
    private static final int[] EDGES = {
        Integer.MIN_VALUE, Integer.MIN_VALUE + 1, -1000000000, -65536, -1000, -101, -100, -3, -2, -1, 0, 1, 2, 3, 4, 5, 7, 8,
        9, 10, 15, 16, 17, 20, 21, 23, 24, 25, 30, 31, 59, 60, 61, 99, 100, 101, 115, 116, 129, 130, 199, 200, 201, 223, 224,
        229, 240, 241, 255, 256, 260, 261, 299, 300, 301, 3650, 3651, 6120, 6121, 9999, 10000, 65535, 65536, 99999, 100000,
        999999999, 1000000000, Integer.MAX_VALUE - 199, Integer.MAX_VALUE - 99, Integer.MAX_VALUE - 1, Integer.MAX_VALUE,
    };
    private static final String[] TEXTS = {
        "p60+w(1=1);x(w=3&h>20&n>2);i5(m=1)", "p99999*99999*k/[w-1](!h%[n-1]=0|1=1)", "p[0-99999*99999-99999*99999]/[0-1](1=1)",
        "i9999(1=1);p1(1=1)", "x(1=1)", "2(9s)6w", "3(9s)", "scwrlfo", "((9r)", "a>b5@99/9999;b>a999999@50", "a>b1;b>c1;c>a1",
        "p>a9/1;a>p9/2", "p1(((((((1=1", "p[[[[[[[1", "x(!!!!!!!1=1)", "p12345678", "a>b1234567", "9s9s9s",
    };

    private static int wrong = 0;
    private final Random random;
    private final StruckBeats x = new StruckBeats();

    private SturdyTest(int seed) {
        random = new Random(seed);
    }

    private int any() {
        return random.nextInt(3) == 0 ? random.nextInt() : EDGES[random.nextInt(EDGES.length)];
    }

    private int small() {
        return random.nextInt(4) == 0 ? any() : random.nextInt(26);
    }

    private int call(int which) {
        switch (which) {
            case 0: return x.person(small(), random.nextInt(2) == 0 ? any() : random.nextInt(1000000), any()) ? 1 : -1;
            case 1: return x.feed(random.nextInt(), any(), random.nextInt(), small(), random.nextInt());
            case 2: return x.law(any());
            case 3: return x.routine(small(), any());
            case 4: return x.ledger(any());
            case 5: return x.days(random.nextInt(4) == 0 ? any() : 1);
            case 6: return x.tried(small(), any());
            case 7: return x.personIs(small(), small());
            case 8: return x.loanIs(small(), small());
            case 9: return x.dies(small(), small());
            case 10: return x.costs(small(), small());
            case 11: return x.paidOff(small());
            case 12: return x.dueAfter(small(), any());
            case 13: return x.hiccups(any(), small());
            case 14: return x.left(small());
            case 15: return x.longest();
            case 16: return x.stillest(small());
            case 17: return x.alike(small(), small(), small());
            case 18: return x.rings(small());
            case 19: return x.settled(small(), small());
            case 20: return x.joy(small(), any(), any());
            case 21: return x.run(small(), small());
            case 22: return x.table(small(), any());
            case 23: return x.atOnce(any(), small());
            case 24: return x.pulse(small(), small());
            case 25: return x.stairs(small(), small());
            case 26: return x.bells(small(), any());
            case 27: return x.seed(any()) ? 1 : -1;
            case 28: return x.keep();
            case 29: return x.undo() ? 1 : -1;
            case 30: return x.check(small());
            case 31: return x.count(small());
            case 32: return text();
            default: return noise();
        }
    }

    private int text() {
        String text = TEXTS[random.nextInt(TEXTS.length)];
        x.check(0);
        Cities.feed(x, text);
        int n = text.length() - (random.nextInt(3) == 0 ? random.nextInt(text.length()) : 0);
        switch (random.nextInt(4)) {
            case 0: return x.routine(random.nextInt(16), n);
            case 1: return x.ledger(n);
            default: return x.law(n);
        }
    }

    /** Signs of the languages in any order. */
    private int noise() {
        String signs = "pixkdhabnmtw0123456789()[]!&|<>=+-*/%;scwrlfo@";
        StringBuilder text = new StringBuilder(random.nextBoolean() ? "p1(" : "");
        int length = 1 + random.nextInt(200);
        while (text.length() < length) {
            text.append(signs.charAt(random.nextInt(signs.length())));
        }
        x.check(0);
        Cities.feed(x, text.toString());
        switch (random.nextInt(3)) {
            case 0: return x.routine(random.nextInt(16), Math.min(60, length));
            case 1: return x.ledger(length);
            default: return x.law(length);
        }
    }

    /** All that can be seen of the city. */
    private String seen() {
        StringBuilder all = new StringBuilder();
        for (int what = 0; what <= 8; what++) {
            all.append(x.count(what)).append(' ');
        }
        for (int p = 0; p < 16; p++) {
            for (int what = 0; what <= 4; what++) {
                all.append(x.personIs(p, what)).append(' ');
            }
            all.append(x.costs(p, 24)).append(' ');
        }
        for (int l = 0; l < 24; l++) {
            for (int what = 0; what <= 5; what++) {
                all.append(x.loanIs(l, what)).append(' ');
            }
        }
        return all.toString();
    }

    private void runs() {
        for (int i = 0; i < 512; i++) {
            int which = random.nextInt(34);
            String before = which < 32 ? seen() : "";
            int answer = call(which);
            // What check answers with -1 is no refusal, but that all is right.
            if (answer == -1 && which < 32 && which != 30 && !before.equals(seen())) {
                wrong++;
                System.out.println("call " + which + " was refused, and something is changed");
            }
        }
    }

    public static void main(String[] args) {
        for (int seed = 0; seed < 300; seed++) {
            try {
                new SturdyTest(seed).runs();
            } catch (RuntimeException | Error e) {
                wrong++;
                e.printStackTrace(System.out);
            }
        }
        System.out.println(wrong + " wrong");
        if (wrong != 0) {
            System.exit(1);
        }
    }
}
