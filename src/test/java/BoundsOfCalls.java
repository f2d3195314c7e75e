/** The bounds of each call: its numbers just inside and just outside, and what is left where it is refused. */
final class BoundsOfCalls {
    private static final int MOST = 999999999;
    private static final int NOBODY = -1000000000;
    private static final int[] NO_WHAT = {Integer.MIN_VALUE, -1, 2, Integer.MAX_VALUE};
    private static final int[] NO_ONE = {Integer.MIN_VALUE, -1, 16, Integer.MAX_VALUE};
    private static final int[] NO_DAYS = {Integer.MIN_VALUE, -1, 0, 61, Integer.MAX_VALUE};

    private BoundsOfCalls() {
    }

    static void all() {
        newObject();
        person();
        feed();
        law();
        routine();
        ledger();
        days();
        tried();
        personIs();
        loanIs();
        dies();
        costs();
        paidOff();
        dueAfter();
        hiccups();
        leftAndLongest();
        stillest();
        alike();
        rings();
        settled();
        joy();
        run();
        table();
        atOnce();
        pulse();
        stairs();
        bells();
        seed();
        keepAndUndo();
        check();
        count();
    }

    private static void due(long got, long want) {
        Bounds.due(got, want);
    }

    private static void due(boolean got, boolean want) {
        Bounds.due(got, want);
    }

    /** A city without people whose tape has these bytes. */
    private static StruckBeats fed(int... bytes) {
        StruckBeats x = new StruckBeats();
        Cities.feed(x, bytes);
        return x;
    }

    private static StruckBeats fedWords(int... words) {
        StruckBeats x = new StruckBeats();
        Cities.feed(x, Cities.bytes(words));
        return x;
    }

    /** The city is asked once, and its tape is empty then. */
    private static void dueAndEmpty(StruckBeats x, long got, long want) {
        due(got, want);
        due(x.count(6), 0);
    }

    private static void newObject() {
        Bounds.says("Promise 1", "No PEOPLE, LOANS, LAW; THE SEED 1.");
        StruckBeats x = new StruckBeats();
        int[] counts = {0, 0, 0, 0, 0, 0, 0, 1, -2};
        for (int what = 0; what < 9; what++) {
            due(x.count(what), counts[what]);
        }
        for (int p = 0; p < 16; p++) {
            due(x.personIs(p, 0), NOBODY);
        }
        due(x.loanIs(0, 0), -1);
        due(x.days(1), 0);
        due(x.tried(60, 2), 0);
        due(x.rings(0), -2);
        due(x.stillest(1), 0);
        due(x.longest(), -2);
        due(x.hiccups(0, 1), 0);
        due(x.hiccups(1, 0), -1);
        due(x.undo(), false);
    }

    private static void person() {
        Bounds.says("Promise 2", "One of PEOPLE, LIVING (in place of the one before; the ROUTINE stays): true");
        StruckBeats x = Cities.of(16, 86400);
        due(x.count(1), 65535);
        due(x.count(2), 65535);
        Cities.routine(x, 15, "9(2w)6w");
        due(x.person(15, MOST, 99999), true);
        due(x.personIs(15, 0), MOST);
        due(x.personIs(15, 1), 99999);
        due(x.personIs(15, 3), 24);
        due(x.person(15, 1, 0), true);
        due(x.personIs(15, 0), 1);
        due(x.personIs(15, 1), 0);
        due(x.days(1), 16);
        due(x.person(15, 2, 3), true);
        due(x.count(2), 1 << 15);
        due(x.count(1), 65535);
        due(x.personIs(15, 3), 24);
        due(x.personIs(15, 0), 2);

        Bounds.says("Promise 2", "false: no such ones, BEATS of 0.");
        for (int p : NO_ONE) {
            Bounds.refused(Cities.SHORT, 0, y -> y.person(p, 1, 0) ? 1 : 0);
        }
        for (int beats : new int[] {Integer.MIN_VALUE, -1, 0, MOST + 1, Integer.MAX_VALUE}) {
            Bounds.refused(Cities.SHORT, 0, y -> y.person(3, beats, 0) ? 1 : 0);
        }
        for (int age : new int[] {Integer.MIN_VALUE, -1, 100000, Integer.MAX_VALUE}) {
            Bounds.refused(Cities.SHORT, 0, y -> y.person(3, 1, age) ? 1 : 0);
        }
        x = new StruckBeats();
        due(x.person(3, 0, 0), false);
        due(x.personIs(3, 0), NOBODY);
    }

    private static void feed() {
        Bounds.says("Promise 3", "Twenty bytes come behind the tape, the highest of each int first: how many it has; "
            + "NONE if that would be more than 260.");
        StruckBeats x = new StruckBeats();
        for (int i = 1; i <= 13; i++) {
            due(x.feed(0, 0, 0, 0, 0), 20 * i);
        }
        due(x.feed(0, 0, 0, 0, 0), -1);
        due(x.count(6), 260);
        Bounds.refused(Cities.LONG, -1, y -> y.feed(1, 2, 3, 4, 5));
        // Each of the twenty bytes is in its place: a row of lives that falls by one each.
        x = new StruckBeats();
        x.feed(0xfffefdfc, 0xfbfaf9f8, 0xf7f6f5f4, 0xf3f2f1f0, 0xefeeedec);
        due(x.table(20, 300), 19);
        for (int i = 0; i < 20; i++) {
            int[] words = {0xfffefdfc, 0xfbfaf9f8, 0xf7f6f5f4, 0xf3f2f1f0, 0xefeeedec};
            words[i / 4] &= ~(255 << 24 - 8 * (i % 4));
            x.feed(words[0], words[1], words[2], words[3], words[4]);
            due(x.table(i + 1 > 1 ? i + 1 : 2, i == 0 ? 300 : 100 + i), i == 0 ? -3 : -2);
        }
        // The next twenty come behind them.
        x.feed(-1, -1, -1, -1, -1);
        x.feed(0xfe000000, 0, 0, 0, 0);
        due(x.table(21, 120), 0);
    }

    private static void law() {
        Bounds.says("Promise 4", "THE LAW by the first n bytes of the tape (1 to 240; empty then), in place of the one before: how many RULES");
        StruckBeats x = Cities.of(1, 1000);
        Cities.feed(x, "x(1=1);p5(1=1);i3(1=1)");
        dueAndEmpty(x, x.law(14), 2);
        due(x.count(5), 2);
        due(x.costs(0, 0), 300);
        Cities.feed(x, "x(1=1);p5(1=1);i3(1=1)");
        dueAndEmpty(x, x.law(1), -1001);
        Cities.feed(x, "p11" + "+1".repeat(116) + "(1=1)");
        dueAndEmpty(x, x.law(240), 1);
        due(x.count(5), 1);
        due(x.costs(0, 0), 127 * 60);
        Cities.law(x, "x(1=2)");
        due(x.costs(0, 0), 3600);

        Bounds.says("Promise 4", "a FAULT: -1000 times its number, less its place (the one before stays)");
        String[] faults = {"q", "p1234567", "x(1=2);".repeat(16) + "p", "p[[[[[[[", "p1(1=1);p7(1=1)x"};
        int[] answers = {-1000, -2006, -4112, -5007, -1015};
        for (int i = 0; i < faults.length; i++) {
            String text = faults[i];
            Bounds.emptied(text, answers[i], y -> y.law(text.length()));
        }

        Bounds.says("Promise 4", "NONE: no such n, it has not so many (the tape stays).");
        for (int n : new int[] {Integer.MIN_VALUE, -1, 0, 241, 260, 261, Integer.MAX_VALUE}) {
            Bounds.refused(Cities.LONG, -1, y -> y.law(n));
        }
        Bounds.refused(Cities.SHORT, -1, y -> y.law(21));
        Bounds.refused("", -1, y -> y.law(1));
        StruckBeats z = fed('x', '(', '1', '=', '1', '&', '0', '=', '0', '0', '+', '0', '0', '+', '0', '0', '+', '0', '0', ')');
        due(z.law(20), 1);
    }

    private static void routine() {
        Bounds.says("Promise 5", "A ROUTINE of p (0 to 15, told or not) by the first n bytes of the tape (1 to 60; empty then): how many HOURS");
        StruckBeats x = new StruckBeats();
        Cities.feed(x, "sw");
        dueAndEmpty(x, x.routine(0, 1), 1);
        Cities.feed(x, "(s)".repeat(20));
        dueAndEmpty(x, x.routine(15, 60), 20);
        due(x.personIs(15, 3), NOBODY);
        x.person(15, 1, 0);
        x.person(0, 1, 0);
        due(x.personIs(15, 3), 20);
        due(x.personIs(0, 3), 1);
        Cities.feed(x, "9w9w6w");
        due(x.routine(15, 6), 24);
        due(x.personIs(15, 3), 24);

        Bounds.says("Promise 5", "a FAULT (the one before stays)");
        String[] faults = {"x", "2w(((", "9w9w9w", "9w9w2(3ws", "3w2(cr)x"};
        int[] answers = {-1000, -5004, -6004, -1009, -1007};
        for (int i = 0; i < faults.length; i++) {
            String text = faults[i];
            Bounds.emptied(text, answers[i], y -> y.routine(0, text.length()));
            Bounds.emptied(text, answers[i], y -> y.routine(4, text.length()));
        }
        due(Cities.routine(x, 15, "9c9c9c"), -6004);
        due(x.personIs(15, 3), 24);
        Cities.law(x, "p1+d(1=1)");
        due(x.costs(15, 23), 180);

        Bounds.says("Promise 5", "NONE: no such ones, it has not so many (the tape stays).");
        for (int p : NO_ONE) {
            Bounds.refused(Cities.SHORT, -1, y -> y.routine(p, 1));
        }
        for (int n : new int[] {Integer.MIN_VALUE, -1, 0, 61, 260, Integer.MAX_VALUE}) {
            Bounds.refused(Cities.LONG, -1, y -> y.routine(0, n));
        }
        Bounds.refused(Cities.SHORT, -1, y -> y.routine(0, 21));
        Bounds.refused("", -1, y -> y.routine(0, 1));
        due(Cities.routine(x, 0, "s".repeat(20)), 20);
    }

    private static void ledger() {
        Bounds.says("Promise 6", "A LEDGER by the first n bytes of the tape (1 to 200; empty then): how many LOANS");
        StruckBeats x = Cities.of(2, 1000);
        Cities.feed(x, "a>b12;b>a3");
        dueAndEmpty(x, x.ledger(4), 1);
        due(x.loanIs(0, 2), 1);
        Cities.feed(x, "a>b12;b>a3");
        dueAndEmpty(x, x.ledger(1), -1001);
        String full = "a>b999999@99/9999;".repeat(10) + "a>b1;a>b1;a>b1;a>b12";
        Cities.feed(x, full);
        dueAndEmpty(x, x.ledger(200), 14);
        due(x.count(4), 14);
        due(Cities.ledger(x, Cities.loans(24)), 24);
        due(x.count(4), 24);

        Bounds.says("Promise 6", "a FAULT (all stay)");
        String[] faults = {"q", "a>b1234567", "a>b1;a>b0", Cities.loans(24) + ";a", "a>b1;b>b2", "a>b1;b>a2;"};
        int[] answers = {-1000, -2009, -3008, -4120, -6007, -1010};
        for (int i = 0; i < faults.length; i++) {
            String text = faults[i];
            Bounds.emptied(text, answers[i], y -> y.ledger(text.length()));
        }
        due(Cities.ledger(x, "a>c1"), -7002);
        due(x.count(4), 24);

        Bounds.says("Promise 6", "NONE: no such n, it has not so many (the tape stays).");
        for (int n : new int[] {Integer.MIN_VALUE, -1, 0, 201, 260, Integer.MAX_VALUE}) {
            Bounds.refused(Cities.LONG, -1, y -> y.ledger(n));
        }
        Bounds.refused(Cities.SHORT, -1, y -> y.ledger(21));
        Bounds.refused("", -1, y -> y.ledger(1));
        due(Cities.ledger(x, "a>b1;a>b1;a>b1;a>b12"), 4);
    }

    private static void days() {
        Bounds.says("Promise 7", "DAYS (1 to 60; as many as can) go by: how many died");
        StruckBeats x = Cities.of(16, 86400);
        x.person(3, 86401, 0);
        due(x.days(1), 15);
        due(x.count(0), 1);
        due(x.days(60), 1);
        due(x.count(0), 61);
        due(x.days(60), 0);
        due(x.count(0), 121);
        x = Cities.of(1, MOST);
        for (int i = 0; i < 166; i++) {
            x.days(60);
        }
        due(x.count(0), 9960);
        due(x.days(60), 0);
        due(x.count(0), 9999);
        x.person(0, 1, 0);
        due(x.days(60), 0);
        due(x.personIs(0, 2), 1);

        Bounds.says("Promise 7", "NONE: no such n.");
        for (int n : NO_DAYS) {
            Bounds.refused(Cities.SHORT, -1, y -> y.days(n));
        }
    }

    private static void tried() {
        Bounds.says("Promise 8", "DAYS (1 to 60; as many as can) that are tried, what 0 how many die in them, 1 THE PARISH then, "
            + "2 LIVING ones then (bits), 100 + p BEATS of told p then, 200 + l DUE of LOAN l then");
        StruckBeats x = Cities.of(16, MOST);
        x.person(15, 60 * 86400, 0);
        Cities.ledger(x, "b>a100@10/9999;" + Cities.loans(23));
        due(x.tried(1, 0), 0);
        due(x.tried(59, 0), 0);
        due(x.tried(60, 0), 1);
        due(x.tried(60, 1), 0);
        due(x.tried(59, 2), 65535);
        due(x.tried(60, 2), 32767);
        due(x.tried(1, 100), MOST - 86400 - 110);
        due(x.tried(59, 115), 86400);
        due(x.tried(60, 115), 0);
        due(x.tried(1, 200), 0);
        due(x.tried(1, 223), 1);
        Cities.law(x, "x(k>0)");
        due(x.tried(1, 1), MOST);
        x.days(1);
        due(x.tried(1, 101), 0);
        due(x.tried(1, 200), 100);
        x = Cities.of(1, MOST);
        for (int i = 0; i < 166; i++) {
            x.days(60);
        }
        x.days(38);
        x.person(0, 100000, 0);
        due(x.tried(60, 100), 100000 - 86400);
        x.days(1);
        due(x.tried(60, 100), 100000 - 86400);
        due(x.tried(1, 0), 0);

        Bounds.says("Promise 8", "NONE: no such ones.");
        for (int n : NO_DAYS) {
            Bounds.refused(Cities.SHORT, -1, y -> y.tried(n, 0));
        }
        for (int what : new int[] {Integer.MIN_VALUE, -1, 3, 99, 116, 199, 224, 300, Integer.MAX_VALUE}) {
            Bounds.refused(Cities.SHORT, -1, y -> y.tried(1, what));
        }
        x = Cities.of(2, 100000);
        due(x.tried(1, 101), 100000 - 86400);
        due(x.tried(1, 102), -1);
        due(x.tried(1, 115), -1);
        due(x.tried(1, 200), -1);
        Cities.ledger(x, "a>b1");
        due(x.tried(1, 200), 1);
        due(x.tried(1, 201), -1);
    }

    private static void personIs() {
        Bounds.says("Promise 9", "Of a told one, what 0 BEATS, 1 AGE, 2 LIVING (1, 0), 3 HOURS of his ROUTINE, 4 NET; -1000000000: no such ones.");
        StruckBeats x = new StruckBeats();
        x.person(0, 86401, 7);
        x.person(15, MOST, 99999);
        Cities.routine(x, 15, "9(2w)6w");
        Cities.ledger(x, "a>p5");
        int[] first = {86401, 7, 1, 0, 5};
        int[] last = {MOST, 99999, 1, 24, -5};
        for (int what = 0; what <= 4; what++) {
            due(x.personIs(0, what), first[what]);
            due(x.personIs(15, what), last[what]);
            due(x.personIs(1, what), NOBODY);
            due(x.personIs(14, what), NOBODY);
            due(x.personIs(-1, what), NOBODY);
            due(x.personIs(16, what), NOBODY);
        }
        x.days(2);
        int[] dead = {0, 8, 0, 0, 5};
        for (int what = 0; what <= 4; what++) {
            due(x.personIs(0, what), dead[what]);
        }
        for (int what : new int[] {Integer.MIN_VALUE, -1, 5, Integer.MAX_VALUE}) {
            Bounds.refused(Cities.SHORT, NOBODY, y -> y.personIs(0, what));
        }
        for (int p : NO_ONE) {
            Bounds.refused(Cities.SHORT, NOBODY, y -> y.personIs(p, 0));
        }
    }

    private static void loanIs() {
        Bounds.says("Promise 10", "Of a LOAN (0 on), what 0 from whom, 1 to whom, 2 so much, 3 RATE, 4 paid a day, 5 DUE; NONE: no such ones.");
        StruckBeats x = Cities.of(16, MOST);
        due(x.loanIs(0, 0), -1);
        Cities.ledger(x, "p>a9@99/1;" + Cities.loans(22) + ";b>p7@1/9999");
        int[] first = {15, 0, 9, 99, 1, 9};
        int[] last = {1, 15, 7, 1, 9999, 7};
        for (int what = 0; what <= 5; what++) {
            due(x.loanIs(0, what), first[what]);
            due(x.loanIs(23, what), last[what]);
            due(x.loanIs(24, what), -1);
            due(x.loanIs(-1, what), -1);
        }
        x.days(1);
        due(x.loanIs(0, 2), 9);
        due(x.loanIs(0, 5), 17);
        due(x.loanIs(23, 5), 0);
        for (int what : new int[] {Integer.MIN_VALUE, -1, 6, Integer.MAX_VALUE}) {
            Bounds.refused(Cities.SHORT, -1, y -> y.loanIs(0, what));
        }
        for (int l : new int[] {Integer.MIN_VALUE, -1, 24, Integer.MAX_VALUE}) {
            Bounds.refused(Cities.SHORT, -1, y -> y.loanIs(l, 0));
        }
    }

    private static void dies() {
        Bounds.says("Promise 11", "DIES: a told one in n DAYS (1 to 60; 0: he is DEAD); -2: not in these; NONE: no such ones.");
        StruckBeats x = Cities.of(2, 60 * 86400);
        x.person(15, 86400, 0);
        due(x.dies(15, 1), 1);
        due(x.dies(0, 1), -2);
        due(x.dies(0, 59), -2);
        due(x.dies(0, 60), 60);
        x.days(1);
        due(x.dies(15, 1), 0);
        due(x.dies(15, 60), 0);
        due(x.dies(15, 0), -1);
        due(x.dies(15, 61), -1);
        due(x.dies(2, 1), -1);
        due(x.dies(14, 1), -1);
        for (int n : NO_DAYS) {
            Bounds.refused(Cities.SHORT, -1, y -> y.dies(0, n));
        }
        for (int p : NO_ONE) {
            Bounds.refused(Cities.SHORT, -1, y -> y.dies(p, 1));
        }
        x = Cities.of(1, MOST);
        for (int i = 0; i < 166; i++) {
            x.days(60);
        }
        x.days(39);
        x.person(0, 1, 0);
        due(x.dies(0, 60), -2);
    }

    private static void costs() {
        Bounds.says("Promise 12", "COSTS of a told LIVING one, what 0 to 23 in that hour, 24 in all; NONE: no such ones.");
        StruckBeats x = new StruckBeats();
        x.person(0, 1, 0);
        x.person(15, MOST, 0);
        Cities.law(x, "p1+h(1=1)");
        due(x.costs(15, 0), 60);
        due(x.costs(15, 23), 1440);
        due(x.costs(15, 24), 60 * 300);
        due(x.costs(0, 24), 60 * 300);
        due(x.costs(1, 0), -1);
        due(x.costs(14, 24), -1);
        x.days(1);
        due(x.costs(0, 0), -1);
        due(x.costs(0, 24), -1);
        for (int what : new int[] {Integer.MIN_VALUE, -1, 25, Integer.MAX_VALUE}) {
            Bounds.refused(Cities.SHORT, -1, y -> y.costs(0, what));
        }
        for (int p : NO_ONE) {
            Bounds.refused(Cities.SHORT, -1, y -> y.costs(p, 0));
        }
    }

    private static void paidOff() {
        Bounds.says("Promise 13", "PAID OFF, a LOAN: DAYS (0: it is); -2: not in 3650; NONE: no such one.");
        StruckBeats x = Cities.of(2, MOST);
        due(x.paidOff(0), -1);
        Cities.ledger(x, "a>b3649/1;a>b3650/1;a>b3651/1;a>b1/1;a>b1;" + Cities.loans(18) + ";a>b2/1");
        int[] days = {3649, 3650, -2, 1, -2};
        for (int l = 0; l < 5; l++) {
            due(x.paidOff(l), days[l]);
        }
        due(x.paidOff(23), 2);
        due(x.paidOff(24), -1);
        due(x.paidOff(-1), -1);
        x.days(1);
        due(x.paidOff(2), 3650);
        due(x.paidOff(3), 0);
        for (int l : new int[] {Integer.MIN_VALUE, -1, 24, Integer.MAX_VALUE}) {
            Bounds.refused(Cities.SHORT, -1, y -> y.paidOff(l));
        }
    }

    private static void dueAfter() {
        Bounds.says("Promise 14", "DUE of a LOAN after n DAYS (0 to 3650) so; NONE: no such ones.");
        StruckBeats x = Cities.of(2, MOST);
        due(x.dueAfter(0, 0), -1);
        Cities.ledger(x, "a>b3651/1;" + Cities.loans(22) + ";a>b9@10/1");
        due(x.dueAfter(0, 0), 3651);
        due(x.dueAfter(0, 1), 3650);
        due(x.dueAfter(0, 3649), 2);
        due(x.dueAfter(0, 3650), 1);
        due(x.dueAfter(23, 0), 9);
        due(x.dueAfter(23, 1), 9);
        due(x.dueAfter(24, 0), -1);
        for (int n : new int[] {Integer.MIN_VALUE, -1, 3651, Integer.MAX_VALUE}) {
            Bounds.refused(Cities.SHORT, -1, y -> y.dueAfter(0, n));
        }
        for (int l : new int[] {Integer.MIN_VALUE, -1, 24, Integer.MAX_VALUE}) {
            Bounds.refused(Cities.SHORT, -1, y -> y.dueAfter(l, 0));
        }
    }

    private static void hiccups() {
        Bounds.says("Promise 15", "HICCUPS, some that have them (bits of told ones), what 0 who in the end (bits), 1 hours; NONE: no such ones.");
        StruckBeats x = Cities.of(3, 100000);
        due(x.hiccups(4, 0), 7);
        due(x.hiccups(4, 1), 1);
        due(x.hiccups(7, 0), 7);
        due(x.hiccups(8, 0), -1);
        due(x.hiccups(9, 0), -1);
        due(x.hiccups(8, 1), -1);
        for (int some : new int[] {-1, Integer.MIN_VALUE, 65536, 65537, Integer.MAX_VALUE}) {
            Bounds.refused(Cities.SHORT, -1, y -> y.hiccups(some, 0));
        }
        for (int what : NO_WHAT) {
            Bounds.refused(Cities.SHORT, -1, y -> y.hiccups(0, what));
        }
        Cities.law(x, "x(1=1)");
        x.days(1);
        due(x.hiccups(7, 0), 0);
    }

    private static void leftAndLongest() {
        Bounds.says("Promise 16", "LEFT of a told LIVING one; NONE: no such one.");
        StruckBeats x = Cities.of(1, 1);
        x.person(15, MOST, 0);
        due(x.left(0), 0);
        due(x.left(15), 11574);
        due(x.left(1), -1);
        due(x.left(14), -1);
        x.days(1);
        due(x.left(0), -1);
        for (int p : NO_ONE) {
            Bounds.refused(Cities.SHORT, -1, y -> y.left(p));
        }

        Bounds.says("Promise 17", "Who has most days LEFT; -2: nobody is LIVING.");
        due(x.longest(), 15);
        due(new StruckBeats().longest(), -2);
        x = Cities.of(16, 1);
        due(x.longest(), 0);
        x.days(1);
        due(x.longest(), -2);
        x.person(15, 1, 0);
        due(x.longest(), 15);
    }

    private static void stillest() {
        Bounds.says("Promise 18", "THE STILLEST hour, what 0 which, 1 how much (nobody LIVING: 0, 0); NONE: no such what.");
        StruckBeats x = Cities.of(1, 1);
        Cities.law(x, "p1(h=23)");
        due(x.stillest(0), 23);
        due(x.stillest(1), 60);
        x.days(1);
        due(x.stillest(0), 0);
        due(x.stillest(1), 0);
        due(new StruckBeats().stillest(0), 0);
        due(new StruckBeats().stillest(1), 0);
        due(new StruckBeats().stillest(2), -1);
        for (int what : NO_WHAT) {
            Bounds.refused(Cities.SHORT, -1, y -> y.stillest(what));
        }
    }

    private static void alike() {
        Bounds.says("Promise 19", "ALIKE of two told ones, what 0 hours, 1 how many hours later, 2 how many then; NONE: no such ones, the same.");
        StruckBeats x = Cities.of(1, 100);
        x.person(15, 100, 0);
        Cities.routine(x, 15, "w");
        due(x.alike(0, 15, 0), 23);
        due(x.alike(15, 0, 1), 0);
        due(x.alike(0, 15, 2), 23);
        due(x.alike(0, 0, 0), -1);
        due(x.alike(15, 15, 0), -1);
        due(x.alike(0, 1, 0), -1);
        due(x.alike(14, 15, 0), -1);
        for (int p : NO_ONE) {
            Bounds.refused(Cities.SHORT, -1, y -> y.alike(p, 0, 0));
            Bounds.refused(Cities.SHORT, -1, y -> y.alike(0, p, 0));
        }
        for (int what : new int[] {Integer.MIN_VALUE, -1, 3, Integer.MAX_VALUE}) {
            Bounds.refused(Cities.SHORT, -1, y -> y.alike(0, 1, what));
        }
    }

    private static void rings() {
        Bounds.says("Promise 20", "RINGS, what 0 the fewest LOANS, 1 who (bits); -2: there is none; NONE: no such what.");
        due(new StruckBeats().rings(0), -2);
        due(new StruckBeats().rings(1), -2);
        due(new StruckBeats().rings(2), -1);
        StruckBeats x = Cities.of(16, 100);
        Cities.ledger(x, Cities.loans(24));
        due(x.rings(0), -2);
        due(x.rings(1), -2);
        Cities.ledger(x, Cities.loans(23) + ";b>a1");
        due(x.rings(0), 2);
        due(x.rings(1), 3);
        x.days(1);
        due(x.rings(1), 3);
        for (int what : NO_WHAT) {
            Bounds.refused(Cities.SHORT, -1, y -> y.rings(what));
        }
    }

    private static void settled() {
        Bounds.says("Promise 21", "SETTLED of n people (2 to 8) by the first 2 n bytes of the tape (empty then), what 0 payments, "
            + "1 how much in all; -2 as above");
        StruckBeats x = fedWords(32769, 32767);
        dueAndEmpty(x, x.settled(2, 0), 1);
        x = fedWords(32773, 32763, 0, 0);
        dueAndEmpty(x, x.settled(2, 1), 5);
        x = fedWords(32769, 32767, 32770, 32766, 32771, 32765, 32772, 32764, 9);
        dueAndEmpty(x, x.settled(8, 0), 4);
        x = fedWords(32769, 32767, 32770, 32766, 32771, 32765, 32772, 32764, 9);
        dueAndEmpty(x, x.settled(8, 1), 10);
        Bounds.emptied(Cities.SHORT, -2, y -> y.settled(2, 0));
        Bounds.emptied(Cities.SHORT, -2, y -> y.settled(8, 1));

        Bounds.says("Promise 21", "NONE: no such ones, it has not so many (the tape stays).");
        for (int n : new int[] {Integer.MIN_VALUE, -1, 0, 1, 9, 1 << 30, Integer.MAX_VALUE}) {
            Bounds.refused(Cities.LONG, -1, y -> y.settled(n, 0));
        }
        for (int what : NO_WHAT) {
            Bounds.refused(Cities.LONG, -1, y -> y.settled(2, what));
        }
        Bounds.refused("", -1, y -> y.settled(2, 0));
    }

    private static void joy() {
        Bounds.says("Promise 22", "JOY by the first 2 n bytes of the tape (cost, joy; n 1 to 5; empty then) for so much (0 to 6120), "
            + "what 100 how much joy, else hours of thing what; -2 as above");
        StruckBeats x = fed(0, 7, 0, 9);
        dueAndEmpty(x, x.joy(1, 0, 100), 168);
        x = fed(0, 7, 0, 9);
        dueAndEmpty(x, x.joy(2, 0, 100), 216);
        x = fed(0, 7, 0, 9);
        dueAndEmpty(x, x.joy(1, 6120, 0), 24);
        x = fed(0, 1, 0, 2, 0, 3, 0, 4, 0, 5, 0, 6);
        dueAndEmpty(x, x.joy(5, 6120, 4), 24);
        x = fed(0, 1, 0, 2, 0, 3, 0, 4, 0, 5, 0, 6);
        dueAndEmpty(x, x.joy(5, 6120, 0), 0);
        // What costs 'p' (112) an hour can't be done for less.
        Bounds.emptied(Cities.SHORT, -2, y -> y.joy(1, 112 * 24 - 1, 100));
        Bounds.emptied(Cities.SHORT, -2, y -> y.joy(1, 0, 0));
        Bounds.emptied(Cities.SHORT, 49 * 24, y -> y.joy(1, 112 * 24, 100));

        Bounds.says("Promise 22", "NONE: no such ones, it has not so many (the tape stays).");
        for (int n : new int[] {Integer.MIN_VALUE, -1, 0, 6, 1 << 30, Integer.MAX_VALUE}) {
            Bounds.refused(Cities.LONG, -1, y -> y.joy(n, 0, 100));
            Bounds.refused(Cities.LONG, -1, y -> y.joy(n, 0, 0));
        }
        for (int much : new int[] {Integer.MIN_VALUE, -1, 6121, Integer.MAX_VALUE}) {
            Bounds.refused(Cities.LONG, -1, y -> y.joy(1, much, 100));
        }
        for (int what : new int[] {Integer.MIN_VALUE, -1, 5, 99, 101, Integer.MAX_VALUE}) {
            Bounds.refused(Cities.LONG, -1, y -> y.joy(5, 6120, what));
        }
        Bounds.refused(Cities.LONG, -1, y -> y.joy(1, 6120, 1));
        Bounds.refused("", -1, y -> y.joy(1, 6120, 100));
    }

    private static void run() {
        Bounds.says("Promise 23", "A RUN by the first n bytes of the tape (n 2 to 16; empty then), what 0 how many, 1 rounds; -2: one above 16");
        StruckBeats x = fed(0, 1, 17);
        dueAndEmpty(x, x.run(2, 0), 2);
        x = fed(0, 1, 17);
        dueAndEmpty(x, x.run(2, 1), 2);
        x = fed(0, 1, 17);
        dueAndEmpty(x, x.run(3, 0), -2);
        x = fed(0, 1, 16);
        dueAndEmpty(x, x.run(3, 0), 2);
        x = fed(0, 1, 2, 3, 4, 5, 6, 7, 8, 9, 10, 11, 12, 13, 14, 15, 17);
        dueAndEmpty(x, x.run(16, 0), 16);
        x = fed(17, 0);
        dueAndEmpty(x, x.run(2, 1), -2);
        x = fed(255, 0);
        dueAndEmpty(x, x.run(2, 0), -2);
        Bounds.emptied(Cities.SHORT, -2, y -> y.run(16, 0));

        Bounds.says("Promise 23", "NONE: no such ones, it has not so many (the tape stays).");
        for (int n : new int[] {Integer.MIN_VALUE, -1, 0, 1, 17, Integer.MAX_VALUE}) {
            Bounds.refused(Cities.LONG, -1, y -> y.run(n, 0));
        }
        for (int what : NO_WHAT) {
            Bounds.refused(Cities.LONG, -1, y -> y.run(2, what));
        }
        Bounds.refused("", -1, y -> y.run(2, 0));
    }

    private static void table() {
        Bounds.says("Promise 24", "A TABLE by the first n bytes of the tape (n 2 to 30; empty then), what 100 + a, 200 + a above, below the line at age a "
            + "(without a common divisor; 0 through 1 if none live later), 300 the age of most deaths");
        int[] row = {100, 80, 20, 0, 1};
        int[] above = {1, 1, 0};
        int[] below = {1, 4, 1};
        for (int age = 0; age < 3; age++) {
            StruckBeats x = fed(row);
            dueAndEmpty(x, x.table(4, 100 + age), above[age]);
            x = fed(row);
            dueAndEmpty(x, x.table(4, 200 + age), below[age]);
        }
        StruckBeats x = fed(row);
        dueAndEmpty(x, x.table(4, 300), 1);
        x = fed(row);
        dueAndEmpty(x, x.table(2, 101), 0);
        x = fed(row);
        dueAndEmpty(x, x.table(2, 201), 1);
        int[] long_ = new int[40];
        java.util.Arrays.fill(long_, 0, 30, 7);
        long_[30] = 255;
        x = fed(long_);
        dueAndEmpty(x, x.table(30, 100), 29);
        x = fed(long_);
        dueAndEmpty(x, x.table(30, 129), 0);
        x = fed(long_);
        dueAndEmpty(x, x.table(30, 229), 1);
        x = fed(long_);
        dueAndEmpty(x, x.table(30, 300), 29);

        Bounds.says("Promise 24", "-3: a row that is not right; -2: nobody lives at that age");
        x = fed(row);
        dueAndEmpty(x, x.table(5, 300), -3);
        x = fed(row);
        dueAndEmpty(x, x.table(5, 103), -3);
        x = fed(0, 0);
        dueAndEmpty(x, x.table(2, 100), -3);
        x = fed(row);
        dueAndEmpty(x, x.table(4, 103), -2);
        x = fed(row);
        dueAndEmpty(x, x.table(4, 203), -2);
        x = fed(1, 0);
        dueAndEmpty(x, x.table(2, 101), -2);
        x = fed(1, 1);
        dueAndEmpty(x, x.table(2, 101), 0);
        Bounds.emptied("ab", -3, y -> y.table(2, 300));
        Bounds.emptied("b\0", -2, y -> y.table(2, 201));

        Bounds.says("Promise 24", "NONE: no such ones, it has not so many (the tape stays).");
        for (int n : new int[] {Integer.MIN_VALUE, -1, 0, 1, 31, Integer.MAX_VALUE}) {
            Bounds.refused(Cities.LONG, -1, y -> y.table(n, 300));
            Bounds.refused(Cities.LONG, -1, y -> y.table(n, 100));
        }
        for (int what : new int[] {Integer.MIN_VALUE, -1, 0, 99, 103, 199, 203, 299, 301, Integer.MAX_VALUE}) {
            Bounds.refused(Cities.LONG, -1, y -> y.table(3, what));
        }
        Bounds.refused(Cities.LONG, -1, y -> y.table(30, 130));
        Bounds.refused(Cities.LONG, -1, y -> y.table(30, 230));
        Bounds.refused(Cities.SHORT, -1, y -> y.table(21, 300));
        Bounds.refused("", -1, y -> y.table(2, 300));
    }

    private static void atOnce() {
        Bounds.says("Promise 25", "AT ONCE by the first 4 bytes of the tape (first tick, so many, first tick, so many; empty then) up to a tick (0 to 65535), "
            + "what 0 the first (may be later; none: -2), 1 how many; -3: so many of 0");
        StruckBeats x = fed(1, 3, 2, 5);
        dueAndEmpty(x, x.atOnce(0, 0), 7);
        x = fed(1, 3, 2, 5);
        dueAndEmpty(x, x.atOnce(65535, 0), 7);
        x = fed(1, 3, 2, 5);
        dueAndEmpty(x, x.atOnce(6, 1), 0);
        x = fed(1, 3, 2, 5);
        dueAndEmpty(x, x.atOnce(7, 1), 1);
        x = fed(1, 3, 2, 5);
        dueAndEmpty(x, x.atOnce(65535, 1), (65535 - 7) / 15 + 1);
        x = fed(0, 2, 1, 2);
        dueAndEmpty(x, x.atOnce(65535, 0), -2);
        x = fed(0, 2, 1, 2);
        dueAndEmpty(x, x.atOnce(65535, 1), 0);
        x = fed(1, 0, 1, 1);
        dueAndEmpty(x, x.atOnce(0, 0), -3);
        x = fed(1, 1, 1, 0);
        dueAndEmpty(x, x.atOnce(0, 1), -3);
        Bounds.emptied("\1\0\1\1", -3, y -> y.atOnce(0, 0));
        Bounds.emptied("\0\2\1\2", -2, y -> y.atOnce(0, 0));

        Bounds.says("Promise 25", "NONE: no such ones, it has not so many (the tape stays).");
        for (int upTo : new int[] {Integer.MIN_VALUE, -1, 65536, Integer.MAX_VALUE}) {
            Bounds.refused(Cities.SHORT, -1, y -> y.atOnce(upTo, 0));
        }
        for (int what : NO_WHAT) {
            Bounds.refused(Cities.SHORT, -1, y -> y.atOnce(0, what));
        }
        Bounds.refused("", -1, y -> y.atOnce(0, 0));
    }

    private static void pulse() {
        Bounds.says("Promise 26", "A PULSE by the first 2 n bytes of the tape (n 2 to 20; empty then), what 0 ticks between, 1 how many not heard; "
            + "-3: ticks that do not rise");
        StruckBeats x = fedWords(10, 16, 25);
        dueAndEmpty(x, x.pulse(2, 0), 6);
        x = fedWords(10, 16, 25);
        dueAndEmpty(x, x.pulse(3, 1), 3);
        int[] row = new int[21];
        for (int i = 0; i < 20; i++) {
            row[i] = 256 * i + 3 * i;
        }
        x = fedWords(row);
        dueAndEmpty(x, x.pulse(20, 0), 259);
        x = fedWords(row);
        dueAndEmpty(x, x.pulse(20, 1), 0);
        x = fedWords(10, 10);
        dueAndEmpty(x, x.pulse(2, 0), -3);
        x = fedWords(10, 9);
        dueAndEmpty(x, x.pulse(2, 1), -3);
        x = fedWords(10, 11, 11);
        dueAndEmpty(x, x.pulse(3, 1), -3);
        Bounds.emptied("bbaa", -3, y -> y.pulse(2, 0));

        Bounds.says("Promise 26", "NONE: no such ones, it has not so many (the tape stays).");
        for (int n : new int[] {Integer.MIN_VALUE, -1, 0, 1, 21, 1 << 30, Integer.MAX_VALUE}) {
            Bounds.refused(Cities.LONG, -1, y -> y.pulse(n, 0));
        }
        for (int what : NO_WHAT) {
            Bounds.refused(Cities.LONG, -1, y -> y.pulse(2, what));
        }
        Bounds.refused(Cities.SHORT, -1, y -> y.pulse(11, 0));
        Bounds.refused("", -1, y -> y.pulse(2, 0));
        x = fedWords(1, 2, 3, 4, 5, 6, 7, 8, 9, 11);
        due(x.pulse(10, 1), 1);
    }

    private static void stairs() {
        Bounds.says("Promise 27", "STAIRS by the first n bytes of the tape (n 2 to 20; empty then), what 0 the cost, 1 the fewest ways");
        StruckBeats x = fed(0, 10, 0);
        dueAndEmpty(x, x.stairs(2, 0), 32);
        x = fed(0, 10, 0);
        dueAndEmpty(x, x.stairs(3, 0), 2);
        x = fed(0, 10, 0);
        dueAndEmpty(x, x.stairs(2, 1), 1);
        int[] row = new int[21];
        row[19] = 1;
        row[20] = 9;
        x = fed(row);
        dueAndEmpty(x, x.stairs(20, 0), 23);
        x = fed(row);
        dueAndEmpty(x, x.stairs(20, 1), 10);

        Bounds.says("Promise 27", "NONE: no such ones, it has not so many (the tape stays).");
        for (int n : new int[] {Integer.MIN_VALUE, -1, 0, 1, 21, Integer.MAX_VALUE}) {
            Bounds.refused(Cities.LONG, -1, y -> y.stairs(n, 0));
        }
        for (int what : NO_WHAT) {
            Bounds.refused(Cities.LONG, -1, y -> y.stairs(2, what));
        }
        Bounds.refused("", -1, y -> y.stairs(2, 0));
    }

    private static void bells() {
        Bounds.says("Promise 28", "BELLS by the first n bytes of the tape (n 1 to 5; empty then) for a number (1 to 9999): blows; -2: it can't be; "
            + "-3: a bell of 0, two alike");
        StruckBeats x = fed(1, 5);
        dueAndEmpty(x, x.bells(1, 1), 1);
        x = fed(1, 5);
        dueAndEmpty(x, x.bells(1, 9999), 9999);
        x = fed(1, 5);
        dueAndEmpty(x, x.bells(2, 9999), 1999 + 4);
        x = fed(9, 8, 7, 6, 5, 1);
        dueAndEmpty(x, x.bells(5, 4), -2);
        x = fed(9, 8, 7, 6, 5, 1);
        dueAndEmpty(x, x.bells(5, 5), 1);
        x = fed(9, 8, 7, 6, 0);
        dueAndEmpty(x, x.bells(5, 9), -3);
        x = fed(9, 8, 7, 6, 0);
        dueAndEmpty(x, x.bells(4, 9), 1);
        x = fed(9, 8, 7, 6, 9);
        dueAndEmpty(x, x.bells(5, 9), -3);
        x = fed(9, 9);
        dueAndEmpty(x, x.bells(1, 9), 1);
        x = fed(9, 9);
        dueAndEmpty(x, x.bells(2, 8), -3);
        x = fed(0);
        dueAndEmpty(x, x.bells(1, 8), -3);
        Bounds.emptied("aa", -3, y -> y.bells(2, 1));
        Bounds.emptied("ab", -2, y -> y.bells(2, 1));

        Bounds.says("Promise 28", "NONE: no such ones, it has not so many (the tape stays).");
        for (int n : new int[] {Integer.MIN_VALUE, -1, 0, 6, Integer.MAX_VALUE}) {
            Bounds.refused(Cities.LONG, -1, y -> y.bells(n, 1));
        }
        for (int number : new int[] {Integer.MIN_VALUE, -1, 0, 10000, Integer.MAX_VALUE}) {
            Bounds.refused(Cities.LONG, -1, y -> y.bells(1, number));
        }
        Bounds.refused("", -1, y -> y.bells(1, 1));
    }

    private static void seed() {
        Bounds.says("Promise 29", "THE SEED (0 to 65535; X, too): true; false: no such number.");
        StruckBeats x = Cities.of(1, 1);
        due(x.seed(0), true);
        due(x.count(7), 0);
        due(x.seed(65535), true);
        due(x.count(7), 65535);
        due(x.days(1), 1);
        due(x.count(7), 54212);
        for (int seed : new int[] {Integer.MIN_VALUE, -1, 65536, Integer.MAX_VALUE}) {
            Bounds.refused(Cities.SHORT, 0, y -> y.seed(seed) ? 1 : 0);
        }
    }

    private static void keepAndUndo() {
        Bounds.says("Promise 30", "KEPT: THE DAY.");
        StruckBeats x = Cities.of(1, MOST);
        due(x.keep(), 0);
        x.days(60);
        due(x.keep(), 60);
        for (int i = 0; i < 166; i++) {
            x.days(60);
        }
        due(x.keep(), 9999);

        Bounds.says("Promise 31", "UNDONE: true; false: none was KEPT.");
        x = Cities.of(16, 100);
        due(x.undo(), false);
        due(x.count(1), 65535);
        due(x.personIs(15, 0), 100);
        x = new StruckBeats();
        x.keep();
        x.person(0, 1, 1);
        x.days(1);
        due(x.undo(), true);
        due(x.count(1), 0);
        due(x.count(0), 0);
        due(x.count(7), 1);
        due(x.undo(), true);
        // All sixteen and all twenty-four loans are kept.
        x = Cities.full("");
        StruckBeats other = Cities.full("");
        other.keep();
        x.keep();
        Cities.ledger(x, "a>b1");
        x.person(15, 5, 5);
        x.days(60);
        due(x.undo(), true);
        due(Cities.seen(x).equals(Cities.seen(other)), true);
    }

    private static void check() {
        Bounds.says("Promise 32", "CHECK by the first n bytes of the tape (0 to 16; empty then; of those not told 255): NONE: right; else the first that is not so");
        StruckBeats x = fed(255, 1);
        dueAndEmpty(x, x.check(1), -1);
        x = fed(255, 1);
        dueAndEmpty(x, x.check(2), 1);
        x = fed(254);
        dueAndEmpty(x, x.check(1), 0);
        x = fed(0);
        dueAndEmpty(x, x.check(0), -1);
        x = Cities.of(15, 100);
        x.person(4, 100000, 0);
        x.days(1);
        int[] row = {0, 0, 0, 0, 1, 0, 0, 0, 0, 0, 0, 0, 0, 0, 0, 255, 9};
        Cities.feed(x, row);
        dueAndEmpty(x, x.check(16), -1);
        row[15] = 0;
        Cities.feed(x, row);
        dueAndEmpty(x, x.check(16), 15);
        Cities.feed(x, row);
        dueAndEmpty(x, x.check(15), -1);
        row[4] = 255;
        Cities.feed(x, row);
        dueAndEmpty(x, x.check(16), 4);
        Bounds.emptied(Cities.SHORT, 0, y -> y.check(16));
        Bounds.emptied(Cities.LONG, -1, y -> y.check(0));

        Bounds.says("Promise 32", "-2: no such n, it has not so many (the tape stays).");
        for (int n : new int[] {Integer.MIN_VALUE, -1, 17, 260, Integer.MAX_VALUE}) {
            Bounds.refused(Cities.LONG, -2, y -> y.check(n));
        }
        Bounds.refused("", -2, y -> y.check(1));
        Bounds.refused("", -2, y -> y.check(16));
    }

    private static void count() {
        Bounds.says("Promise 33", "0 THE DAY, 1 told PEOPLE (bits), 2 LIVING ones (bits), 3 THE PARISH, 4 LOANS, 5 RULES, 6 bytes of the tape, 7 X");
        StruckBeats x = Cities.of(16, MOST);
        Cities.law(x, "x(k=15);".repeat(15) + "p1(1=1)");
        Cities.ledger(x, Cities.loans(24));
        x.days(1);
        Cities.feed(x, Cities.LONG);
        int[] counts = {1, 65535, 32767, MOST, 24, 16, 260, Cities.drawn(1, 16 + 23 * 15)};
        for (int what = 0; what < 8; what++) {
            due(x.count(what), counts[what]);
        }

        Bounds.says("Promise 33", "8 the told one of most BEATS (DEAD ones have 0; of like ones the lowest; nobody: -2).");
        due(new StruckBeats().count(8), -2);
        due(x.count(8), 0);
        x = new StruckBeats();
        x.person(15, 86401, 0);
        due(x.count(8), 15);
        x.person(4, 86400, 0);
        due(x.count(8), 15);
        x.person(7, 86401, 0);
        due(x.count(8), 7);
        x.days(1);
        due(x.count(2), 1 << 15 | 1 << 7);
        due(x.count(8), 7);
        x.person(15, 2, 0);
        due(x.count(8), 15);
        x.days(1);
        due(x.count(2), 0);
        due(x.count(8), 4);

        Bounds.says("Promise 33", "NONE for others.");
        for (int what : new int[] {Integer.MIN_VALUE, -1, 9, Integer.MAX_VALUE}) {
            Bounds.refused(Cities.SHORT, -1, y -> y.count(what));
        }
    }
}
