import java.util.function.ToIntFunction;

/** The bounds of what is asked of a city, and of what is reckoned from the tape. */
final class BoundsOfSums {
    private static final String T = "Terms";
    private static final int MOST = 999999999;

    /** Asked again and again: what was asked before must make no difference. */
    private static StruckBeats used = new StruckBeats();
    private static int calls = 0;

    private BoundsOfSums() {
    }

    static void all() {
        trials();
        costs();
        paidOff();
        hiccups();
        hiccupsDayByDay();
        left();
        stillest();
        alike();
        rings();
        nets();
        settled();
        joy();
        run();
        table();
        atOnce();
        pulse();
        stairs();
        bells();
        kept();
        check();
        ownMemory();
        refusal();
    }

    private static void due(long got, long want) {
        Bounds.due(got, want);
    }

    /** The answer of a new city, which the used one must give, too. */
    private static int answer(ToIntFunction<StruckBeats> call, int... bytes) {
        StruckBeats x = new StruckBeats();
        Cities.feed(x, bytes);
        int answer = call.applyAsInt(x);
        calls += bytes.length / 20 + 2;
        if (calls > 512) {
            used = new StruckBeats();
            calls = bytes.length / 20 + 2;
        }
        Cities.feed(used, bytes);
        due(call.applyAsInt(used), answer);
        return answer;
    }

    private static void trials() {
        Bounds.says(T, "TRIED are n DAYS by the DRAWS that will come (nothing is changed).");
        StruckBeats x = Cities.full(Cities.SHORT);
        StruckBeats other = Cities.full(Cities.SHORT);
        due(x.tried(60, 0), 14);
        due(x.tried(1, 1), x.tried(1, 1));
        Bounds.due(Cities.seen(x).equals(Cities.seen(other)), true);
        x = Cities.full("");
        Cities.law(x, "p60+w(1=1);x(w=9&h=7)");
        other = Cities.full("");
        Cities.law(other, "p60+w(1=1);x(w=9&h=7)");
        int died = other.days(2);
        for (int again = 0; again < 2; again++) {
            due(x.tried(2, 0), died);
            due(x.tried(2, 1), other.count(3));
            due(x.tried(2, 2), other.count(2));
            for (int p = 0; p < 16; p++) {
                due(x.tried(2, 100 + p), other.personIs(p, 0));
            }
        }
        due(x.count(7), 4321);

        Bounds.says(T, "DIES: behind how many of n DAYS one is DEAD first.");
        x = Cities.of(1, 86400);
        due(x.dies(0, 60), 1);
        x.person(0, 86401, 0);
        due(x.dies(0, 60), 2);
        due(x.dies(0, 2), 2);
        due(x.dies(0, 1), -2);
        x.person(0, 60 * 86400, 0);
        due(x.dies(0, 60), 60);
        due(x.dies(0, 59), -2);
        x.person(0, 60 * 86400 + 1, 0);
        due(x.dies(0, 60), -2);
        due(x.count(0), 0);
    }

    private static void costs() {
        Bounds.says(T, "COSTS: BEATS that a day of one takes by his ROUTINE (THE LAW with w 0, n 0, h each hour, all else as it is now, x aside); "
            + "those of an hour of it.");
        StruckBeats x = Cities.of(16, 5000);
        Cities.routine(x, 0, "w9(2c)4cr");
        Cities.law(x, "x(1=1);p1+d+n*9+w*9+h*10(1=1)");
        due(x.costs(0, 0), 60 * 3);
        due(x.costs(0, 1), 60 * 12);
        due(x.costs(0, 23), 60 * (4 + 230));
        due(x.costs(0, 24), 60 * (24 + 2 + 22 + 3 + 2760));
        // BEATS are what they are now in each hour, though few of them would be left.
        Cities.law(x, "p9(b=5);p1(1=1)");
        due(x.costs(0, 24), 24 * 540);
        due(x.costs(0, 23), 540);
        Cities.law(x, "p9(w=0&n=0&t=0&a=0&m=0)");
        due(x.costs(15, 24), 24 * 540);
    }

    private static void paidOff() {
        Bounds.says(T, "PAID OFF: after how many DAYS a LOAN is 0, its debtor having enough, both LIVING or not "
            + "(each DAY first more, then less, as above); its DUE after n DAYS so.");
        StruckBeats x = Cities.of(2, 1);
        Cities.ledger(x, "a>b50/50;a>b51/50;a>b50/51;a>b100@1/100;a>b100@1/101;a>b1;a>b999999@99/9999;a>b999999@99");
        int[] days = {1, 2, 1, 2, 1, -2, -2, -2};
        for (int again = 0; again < 2; again++) {
            for (int l = 0; l < days.length; l++) {
                due(x.paidOff(l), days[l]);
            }
            due(x.dueAfter(1, 0), 51);
            due(x.dueAfter(1, 1), 1);
            due(x.dueAfter(1, 2), 0);
            due(x.dueAfter(1, 3650), 0);
            due(x.dueAfter(3, 1), 1);
            due(x.dueAfter(3, 2), 0);
            due(x.dueAfter(5, 3650), 1);
            due(x.dueAfter(6, 4), 9999999 - 9999);
            due(x.dueAfter(6, 3650), 9999999 - 9999);
            due(x.dueAfter(7, 3650), 9999999);
            // The second time both are dead.
            x.days(1);
            due(x.count(2), 0);
        }
        due(x.loanIs(1, 5), 51);
    }

    private static void hiccups() {
        Bounds.says(T, "HICCUPS: some (or none; bits) have them at hour 0 of a day; in each hour all LIVING ones who do the same as one LIVING "
            + "that has them ahead of that hour get them");
        StruckBeats x = Cities.of(16, 1000000);
        due(x.hiccups(0, 0), 0);
        due(x.hiccups(0, 1), 0);
        due(x.hiccups(65535, 0), 65535);
        due(x.hiccups(65535, 1), 0);
        due(x.hiccups(1 << 15, 0), 65535);
        due(x.hiccups(1 << 15, 1), 1);
        // b walks in the hour in which he gets them from a: c and d, who run then, get them an hour later only.
        x = Cities.of(3, 1000000);
        Cities.routine(x, 0, "9(2w)6w");
        Cities.routine(x, 1, "w9(2r)5r");
        Cities.routine(x, 2, "9(2r)6r");
        due(x.hiccups(1, 0), 7);
        due(x.hiccups(1, 1), 2);
        due(new StruckBeats().hiccups(0, 0), 0);

        Bounds.says(T, "who has them in the end (LIVING ones alone); behind how many hours the last one has got them (0: none gets them)");
        x = Cities.of(3, 1000000);
        Cities.law(x, "x(k=1)");
        x.days(1);
        due(x.hiccups(2, 0), 0);
        due(x.hiccups(2, 1), 0);
        due(x.hiccups(3, 0), 5);
        due(x.hiccups(1, 0), 5);
        due(x.hiccups(1, 1), 1);
        Cities.routine(x, 0, "9(2w)6w");
        due(x.hiccups(7, 0), 5);
        due(x.hiccups(3, 0), 1);
        due(x.hiccups(3, 1), 0);
    }

    private static void hiccupsDayByDay() {
        Bounds.says(T, "day by day by the same ROUTINES");
        // a meets b in hour 23 alone, b meets c in hour 0 alone.
        StruckBeats x = Cities.of(3, 1000000);
        Cities.routine(x, 0, "9(2w)6w");
        Cities.routine(x, 1, "9(2r)5rw");
        Cities.routine(x, 2, "r9(2l)5l");
        due(x.hiccups(1, 0), 7);
        due(x.hiccups(1, 1), 25);
        due(x.hiccups(2, 1), 24);
        due(x.hiccups(4, 1), 24);
        // Each but the first does his own, but in one hour what the one ahead of him does: an hour earlier each.
        x = Cities.of(7, 1000000);
        String does = "scwrlfo";
        for (int p = 0; p < 7; p++) {
            StringBuilder day = new StringBuilder(does.substring(p, p + 1).repeat(24));
            if (p > 0) {
                day.setCharAt(6 - p, does.charAt(p - 1));
            }
            Cities.routine(x, p, day.toString());
        }
        due(x.hiccups(1, 0), 127);
        due(x.hiccups(1, 1), 6 + 5 * 23);
    }

    private static void left() {
        Bounds.says(T, "LEFT: for how many whole days BEATS are enough by COSTS of a day; of LIVING ones who has most days LEFT "
            + "(of like ones the lowest).");
        StruckBeats x = new StruckBeats();
        int[] beats = {1, 86399, 86400, 2 * 86400 - 1, 2 * 86400, MOST};
        int[] days = {0, 0, 1, 1, 2, 11574};
        for (int i = 0; i < beats.length; i++) {
            x.person(9, beats[i], 0);
            due(x.left(9), days[i]);
        }
        due(x.longest(), 9);
        x.person(15, MOST, 0);
        due(x.longest(), 9);
        x.person(9, 86400, 0);
        due(x.longest(), 15);
        x.person(3, 11574 * 86400, 0);
        due(x.longest(), 3);
        x.person(3, 11574 * 86400 - 1, 0);
        due(x.longest(), 15);
        x = Cities.of(1, 1);
        due(x.longest(), 0);
        // Slower hearts have more days LEFT of fewer BEATS.
        x = Cities.of(2, 86400);
        x.person(1, 1440 * 2, 0);
        Cities.law(x, "p1(k=1)");
        due(x.left(1), 2);
        due(x.longest(), 1);
        Cities.law(x, "x(k=1);p1(k=0)");
        x.days(1);
        due(x.longest(), 0);
    }

    private static void stillest() {
        Bounds.says(T, "THE STILLEST hour: that in which COSTS of all LIVING ones together are least (of like ones the first); how much.");
        StruckBeats x = Cities.of(16, 100000);
        due(x.stillest(0), 0);
        due(x.stillest(1), 16 * 3600);
        Cities.law(x, "p255(1=1)");
        due(x.stillest(1), 16 * 15300);
        Cities.law(x, "p59(h=23)");
        due(x.stillest(0), 23);
        due(x.stillest(1), 16 * 59 * 60);
        Cities.law(x, "p61(h=0)");
        due(x.stillest(0), 1);
        Cities.law(x, "p1(h=7);p1(h=9)");
        due(x.stillest(0), 7);
        // One has fewer in hour 5, two have fewer in hour 6.
        Cities.law(x, "p50(h=5&k=0);p54(h=6&k>13)");
        due(x.stillest(0), 6);
        Cities.law(x, "p50(h=5&k=0);p55(h=6&k>13)");
        due(x.stillest(0), 5);
        Cities.law(x, "x(k>0)");
        x.days(1);
        due(x.stillest(1), 3600);
    }

    private static void alike() {
        Bounds.says(T, "ALIKE: hours in which two (LIVING or not) do the same; by how many hours (0 to 23) later the second one would have to do all, "
            + "round the day, so that most are alike (of like ones the least); how many then.");
        StruckBeats x = Cities.of(3, 1);
        due(x.alike(0, 1, 0), 24);
        due(x.alike(0, 1, 1), 0);
        due(x.alike(0, 1, 2), 24);
        Cities.routine(x, 0, "9(2w)6w");
        due(x.alike(0, 1, 0), 0);
        due(x.alike(0, 1, 1), 0);
        due(x.alike(0, 1, 2), 0);
        Cities.routine(x, 0, "w");
        Cities.routine(x, 1, "sw");
        due(x.alike(0, 1, 0), 22);
        due(x.alike(0, 1, 1), 23);
        due(x.alike(0, 1, 2), 24);
        due(x.alike(1, 0, 1), 1);
        // Round the day: what the second one does in hour 23 would come to hour 0.
        Cities.routine(x, 1, "9(2s)5sw");
        due(x.alike(0, 1, 1), 1);
        due(x.alike(1, 0, 1), 23);
        Cities.routine(x, 0, "ws".repeat(12));
        Cities.routine(x, 1, "sw".repeat(12));
        due(x.alike(0, 1, 0), 0);
        due(x.alike(0, 1, 1), 1);
        due(x.alike(0, 1, 2), 24);
        x.days(1);
        due(x.count(2), 0);
        due(x.alike(0, 1, 0), 0);
        due(x.alike(0, 1, 2), 24);
        due(x.alike(0, 2, 0), 12);
    }

    private static void rings() {
        Bounds.says(T, "RINGS of LOANS (DUE above 0): the fewest LOANS in a ring (each one's debtor the next one's lender, nobody twice); "
            + "which PEOPLE are in such a one (of like ones the least bits).");
        StruckBeats x = Cities.of(16, MOST);
        due(x.rings(0), -2);
        Cities.ledger(x, "a>b1;c>b1;a>c1");
        due(x.rings(0), -2);
        Cities.ledger(x, "a>b1;b>a1");
        due(x.rings(0), 2);
        due(x.rings(1), 3);
        Cities.ledger(x, "o>p1;p>o1");
        due(x.rings(1), 3 << 14);
        Cities.ledger(x, "a>b1;b>a1;b>c1;c>b1;o>p1;p>o1");
        due(x.rings(1), 3);
        Cities.ledger(x, "o>p1;p>o1;b>c1;c>b1;a>d1;d>a1");
        due(x.rings(1), 6);
        // A ring is gone with its ledger.
        Cities.ledger(x, "a>b1;c>b1");
        due(x.rings(0), -2);
        due(x.rings(1), -2);
        // Rings of three: a b p has more bits than b c d.
        Cities.ledger(x, "a>b1;b>p1;p>a1;d>c1;c>b1;b>d1");
        due(x.rings(0), 3);
        due(x.rings(1), 14);
        // The second loan is paid off on the first day.
        Cities.ledger(x, "a>b5;b>a1/1;b>c1;c>a1");
        due(x.rings(0), 2);
        x.days(1);
        due(x.rings(0), 3);
        due(x.rings(1), 7);
        StringBuilder all = new StringBuilder("p>a1");
        for (char p = 'a'; p < 'p'; p++) {
            all.append(';').append(p).append('>').append((char) (p + 1)).append('1');
        }
        Cities.ledger(x, all.toString());
        due(x.rings(0), 16);
        due(x.rings(1), 65535);
        Cities.ledger(x, all + ";" + Cities.loans(8));
        due(x.count(4), 24);
        due(x.rings(0), 16);
        Cities.ledger(x, all + ";n>a1");
        due(x.rings(0), 14);
        due(x.rings(1), 16383);
    }

    private static void nets() {
        Bounds.says(T, "NET: what one has DUE to him less what he has to pay (all LOANS).");
        StruckBeats x = Cities.of(3, 1);
        due(x.personIs(0, 4), 0);
        Cities.ledger(x, "a>b999999;".repeat(18) + "b>a2");
        due(x.personIs(0, 4), 18 * 999999 - 2);
        due(x.personIs(1, 4), 2 - 18 * 999999);
        due(x.personIs(2, 4), 0);
        Cities.ledger(x, Cities.loans(24));
        due(x.personIs(0, 4), 24);
        due(x.personIs(1, 4), -24);
        x.days(1);
        due(x.count(2), 0);
        due(x.personIs(0, 4), 24);
        x = Cities.of(2, MOST);
        Cities.ledger(x, "a>b9@99;".repeat(23) + "a>b9@99");
        x.days(60);
        due(x.personIs(0, 4), 24 * 9999999);
        due(x.personIs(1, 4), -24 * 9999999);
        due(x.count(4), 24);
    }

    /** The nets as they are told: 32768 more. */
    private static int settled(int what, int... nets) {
        int[] words = new int[nets.length];
        for (int i = 0; i < nets.length; i++) {
            words[i] = nets[i] + 32768;
        }
        return answer(x -> x.settled(nets.length, what), Cities.bytes(words));
    }

    private static void settled() {
        Bounds.says(T, "SETTLED: the fewest payments by which all NETS of 2 to 8 people (told as two bytes each, high first, 32768 more than it) "
            + "come to 0; -2: they do not come to 0 together; the least that is paid in all.");
        due(bells(256, 255, 1), 2);
        due(settled(0, 0, 0), 0);
        due(settled(1, 0, 0), 0);
        due(settled(0, 1, -1), 1);
        due(settled(1, 1, -1), 1);
        due(settled(0, 1, 0), -2);
        due(settled(0, 1, -2), -2);
        due(settled(1, 1, -2), -2);
        due(settled(0, 32767, -32767), 1);
        due(settled(1, 32767, -32767), 32767);
        due(settled(0, 32767, -32768), -2);
        due(settled(1, -32768, 32767, 1), 32768);
        due(settled(0, -32768, 32767, 1), 2);
        due(settled(0, 0, 0, 0, 0, 0, 0, 0, 0), 0);
        due(settled(0, 7, -1, -1, -1, -1, -1, -1, -1), 7);
        due(settled(1, 7, -1, -1, -1, -1, -1, -1, -1), 7);
        due(settled(0, 4, -1, 3, -2, 2, -3, 1, -4), 4);
        due(settled(0, 3, 2, -5, 4, 1, -5, 9, -9), 5);
        due(settled(1, 32767, 32767, 32767, 32767, -32767, -32767, -32767, -32767), 4 * 32767);
        due(settled(0, -32768, -32768, -32768, -32768, -32768, -32768, -32768, -32768), -2);
        due(settled(0, 256, -256), 1);
        due(settled(0, 256, -1), -2);
    }

    private static int joy(int much, int what, int... bytes) {
        return answer(x -> x.joy(bytes.length / 2, much, what), bytes);
    }

    private static void joy() {
        Bounds.says(T, "JOY: 1 to 5 things one can do in an hour, each costs so much (0 to 255), gives so much joy (0 to 255): for 24 hours, "
            + "at most so much in all (0 to 6120): the most joy; how many hours of a thing "
            + "(of like ones most hours of the first one, then of the second one, and so on); -2: it can't be.");
        due(joy(0, 100, 0, 0), 0);
        due(joy(0, 100, 0, 255), 24 * 255);
        due(joy(6120, 100, 255, 255), 6120);
        due(joy(6119, 100, 255, 255), -2);
        due(joy(6119, 0, 255, 255), -2);
        due(joy(24, 100, 1, 1), 24);
        due(joy(23, 100, 1, 1), -2);
        due(joy(0, 100, 1, 1), -2);
        due(joy(6119, 100, 255, 255, 254, 0), 23 * 255);
        due(joy(6118, 100, 255, 255, 254, 0), 22 * 255);
        int[] like = {9, 5, 3, 5, 2, 5, 1, 5, 0, 5};
        for (int thing = 0; thing < 5; thing++) {
            due(joy(6120, thing, like), thing == 0 ? 24 : 0);
            due(joy(0, thing, like), thing == 4 ? 24 : 0);
        }
        // For 15: one of the first (9), two of the second (6), then nothing is left.
        int[] hours = {1, 2, 0, 0, 21};
        for (int thing = 0; thing < 5; thing++) {
            due(joy(15, thing, like), hours[thing]);
        }
        due(joy(15, 100, like), 120);
        due(joy(5, 4, 1, 1, 1, 2, 1, 3, 1, 4, 0, 5), 24);
    }

    private static int run(int what, int... bytes) {
        return answer(x -> x.run(bytes.length, what), bytes);
    }

    private static void run() {
        Bounds.says(T, "A RUN: 2 to 16 depositors, each comes for his own if at least so many (0 to 16) others are there already; "
            + "all that would come come at once, and so on: how many come in the end; how many rounds there are in which one comes.");
        due(run(0, 0, 0), 2);
        due(run(1, 0, 0), 1);
        due(run(0, 0, 1), 2);
        due(run(1, 0, 1), 2);
        due(run(0, 0, 2), 1);
        due(run(0, 1, 1), 0);
        due(run(1, 1, 1), 0);
        due(run(0, 16, 16), 0);
        int[] row = new int[16];
        for (int i = 0; i < 16; i++) {
            row[i] = 15 - i;
        }
        due(run(0, row), 16);
        due(run(1, row), 16);
        row[0] = 16;
        due(run(0, row), 15);
        due(run(1, row), 15);
        row[15] = 1;
        due(run(0, row), 0);
        due(run(1, row), 0);
        due(run(0, 0, 0, 2, 4), 3);
        due(run(1, 0, 0, 2, 4), 2);
    }

    private static int table(int what, int... bytes) {
        return answer(x -> x.table(bytes.length, what), bytes);
    }

    private static void table() {
        Bounds.says(T, "A TABLE: 2 to 30 numbers of those that live at each age (0 to 255, none more than the one ahead, the first above 0): "
            + "what one at an age (who lives) may yet expect: those at all later ages through those at it: a fraction; "
            + "the age of most deaths (at the last age all that live die; of like ones the lowest).");
        due(table(300, 1, 0), 0);
        due(table(300, 1, 1), 1);
        due(table(300, 0, 0), -3);
        due(table(300, 1, 2), -3);
        due(table(100, 255, 255), 1);
        due(table(200, 255, 255), 1);
        due(table(100, 255, 254), 254);
        due(table(200, 255, 254), 255);
        due(table(300, 2, 1), 0);
        due(table(300, 3, 2), 1);
        due(table(300, 9, 8, 7, 6), 3);
        due(table(300, 9, 6, 3), 0);
        due(table(300, 9, 6, 2, 1), 1);
        int[] row = new int[30];
        for (int i = 0; i < 30; i++) {
            row[i] = 255 - i;
        }
        due(table(300, row), 29);
        // 6960 through 255.
        due(table(100, row), 464);
        due(table(200, row), 17);
        due(table(128, row), 226);
        due(table(228, row), 227);
        row[29] = 228;
        due(table(300, row), -3);
        row[29] = 227;
        due(table(128, row), 1);
    }

    private static int atOnce(int upTo, int what, int... bytes) {
        return answer(x -> x.atOnce(upTo, what), bytes);
    }

    private static void atOnce() {
        Bounds.says(T, "AT ONCE: two hearts beat at told ticks (0 to 255) first, then each so many ticks (1 to 255): the first tick at which both beat "
            + "(-2: none); how many such ticks there are up to one (0 to 65535).");
        due(atOnce(0, 0, 0, 1, 0, 1), 0);
        due(atOnce(0, 1, 0, 1, 0, 1), 1);
        due(atOnce(65535, 1, 0, 1, 0, 1), 65536);
        due(atOnce(65535, 0, 255, 1, 0, 1), 255);
        due(atOnce(65535, 0, 0, 1, 255, 1), 255);
        due(atOnce(65535, 1, 255, 255, 255, 255), 257);
        due(atOnce(254, 1, 255, 255, 255, 255), 0);
        due(atOnce(255, 1, 255, 255, 255, 255), 1);
        due(atOnce(509, 1, 255, 255, 255, 255), 1);
        due(atOnce(510, 1, 255, 255, 255, 255), 2);
        due(atOnce(0, 0, 0, 2, 1, 2), -2);
        due(atOnce(65535, 1, 0, 2, 1, 2), 0);
        due(atOnce(0, 0, 0, 255, 254, 255), -2);
        // The farthest first tick: all but one of the first heart's 254 beats go by.
        due(atOnce(0, 0, 0, 255, 253, 254), 253 * 255);
        due(atOnce(253 * 255 - 1, 1, 0, 255, 253, 254), 0);
        due(atOnce(253 * 255, 1, 0, 255, 253, 254), 1);
        due(atOnce(0, 0, 1, 254, 0, 255), 255);
        due(atOnce(0, 0, 255, 254, 254, 255), 509);
        // Each eighteen ticks from 13 on: 7, 13, 19, .. and 4, 13, 22, ..
        due(atOnce(0, 0, 7, 6, 4, 9), 13);
        due(atOnce(12, 1, 7, 6, 4, 9), 0);
        due(atOnce(30, 1, 7, 6, 4, 9), 1);
        due(atOnce(31, 1, 7, 6, 4, 9), 2);
        due(atOnce(13 + 18 * 3639, 1, 7, 6, 4, 9), 3640);
        due(atOnce(12 + 18 * 3639, 1, 4, 9, 7, 6), 3639);
        // A tick of the first heart that fits the second one's beats, but ahead of them.
        due(atOnce(0, 0, 54, 1, 255, 200), 255);
        due(atOnce(0, 0, 255, 200, 54, 1), 255);
    }

    private static int pulse(int what, int... ticks) {
        return answer(x -> x.pulse(ticks.length, what), Cities.bytes(ticks));
    }

    private static void pulse() {
        Bounds.says(T, "A PULSE: 2 to 20 ticks heard (two bytes each, rising): the greatest number of ticks between beats by which all were beats; "
            + "how many beats were not heard between the first and the last.");
        due(pulse(0, 0, 1), 1);
        due(pulse(1, 0, 1), 0);
        due(pulse(0, 0, 65535), 65535);
        due(pulse(1, 0, 65535), 0);
        due(pulse(0, 65534, 65535), 1);
        due(pulse(0, 0, 1, 65535), 1);
        due(pulse(1, 0, 1, 65535), 65533);
        due(pulse(0, 5, 5), -3);
        due(pulse(0, 5, 4), -3);
        due(pulse(0, 255, 256), 1);
        due(pulse(0, 7, 13, 22), 3);
        due(pulse(1, 7, 13, 22), 3);
        int[] row = new int[20];
        for (int i = 0; i < 20; i++) {
            row[i] = 100 + 300 * i;
        }
        due(pulse(0, row), 300);
        due(pulse(1, row), 0);
        row[19] += 150;
        due(pulse(0, row), 150);
        due(pulse(1, row), 20);
        row[19] = row[18];
        due(pulse(1, row), -3);
    }

    private static int stairs(int what, int... bytes) {
        return answer(x -> x.stairs(bytes.length, what), bytes);
    }

    private static void stairs() {
        Bounds.says(T, "STAIRS: 2 to 20 landings of heights (0 to 255): from the first to the last by ways of one or two landings on, "
            + "each costs 2 and the difference of heights three times if up, once if down: the least; the fewest ways of those.");
        due(bells(256, 255, 1), 2);
        due(stairs(0, 0, 0), 2);
        due(stairs(1, 0, 0), 1);
        due(stairs(0, 0, 255), 767);
        due(stairs(0, 255, 0), 257);
        due(stairs(0, 0, 1), 5);
        due(stairs(0, 1, 0), 3);
        due(stairs(0, 9, 9, 9), 2);
        due(stairs(1, 9, 9, 9), 1);
        // From 0 by 255 to 0 no landing can be left out but one.
        due(stairs(0, 0, 255, 255, 0), 2 + 2 + 765 + 255);
        due(stairs(1, 0, 255, 255, 0), 2);
        int[] row = new int[20];
        due(stairs(0, row), 20);
        due(stairs(1, row), 10);
        for (int i = 1; i < 20; i += 2) {
            row[i] = 255;
        }
        row[19] = 0;
        due(stairs(0, row), 20);
        row[18] = 255;
        due(stairs(1, row), 10);
        // By all three for 2 + 2 + 2, or by two for the same: the fewest of the cheapest.
        due(stairs(0, 0, 1, 2, 3), 2 + 2 + 9);
        due(stairs(1, 0, 1, 2, 3), 2);
    }

    private static int bells(int number, int... bytes) {
        return answer(x -> x.bells(bytes.length, number), bytes);
    }

    private static void bells() {
        Bounds.says(T, "BELLS: 1 to 5 bells of unlike numbers of strokes (1 to 255), struck so that a number (1 to 9999) comes of it: "
            + "the fewest blows; -2: it can't be.");
        due(bells(1, 1), 1);
        due(bells(9999, 1), 9999);
        due(bells(1, 2), -2);
        due(bells(255, 255), 1);
        due(bells(254, 255), -2);
        due(bells(256, 255), -2);
        due(bells(510, 255), 2);
        due(bells(9945, 255), 39);
        due(bells(9999, 255), -2);
        due(bells(9999, 250, 249), 40);
        due(bells(6, 4, 3, 1), 2);
        due(bells(9999, 2, 4, 6, 8, 10), -2);
        due(bells(9998, 2, 4, 6, 8, 10), 1000);
        due(bells(9945, 251, 252, 253, 254, 255), 39);
        due(bells(9946, 251, 252, 253, 254, 255), -2);
        due(bells(256, 255, 254, 253, 252, 1), 2);
    }

    private static void kept() {
        Bounds.says(T, "KEPT: PEOPLE (ROUTINES not), LOANS, THE PARISH, THE DAY, X; UNDONE: as they were KEPT last.");
        StruckBeats x = Cities.of(2, 200000);
        due(x.keep(), 0);
        Cities.routine(x, 0, "7w");
        Cities.law(x, "x(k=1)");
        Cities.ledger(x, "a>b5");
        x.person(15, 9, 9);
        x.seed(77);
        x.days(1);
        x.feed(1, 2, 3, 4, 5);
        due(x.count(3) > 0 ? 1 : 0, 1);
        due(x.undo() ? 1 : 0, 1);
        int[] counts = {0, 3, 3, 0, 0, 1, 20, 1, 0};
        for (int what = 0; what <= 8; what++) {
            due(x.count(what), counts[what]);
        }
        due(x.personIs(0, 0), 200000);
        due(x.personIs(0, 1), 0);
        due(x.personIs(0, 3), 7);
        due(x.personIs(15, 0), -1000000000);
        due(x.loanIs(0, 5), -1);
        // The last of two, undone twice.
        x.person(4, 400, 4);
        x.keep();
        x.person(5, 500, 5);
        due(x.undo() ? 1 : 0, 1);
        due(x.count(1), 19);
        x.person(4, 1, 1);
        due(x.undo() ? 1 : 0, 1);
        due(x.personIs(4, 0), 400);
        due(x.personIs(4, 1), 4);
    }

    private static void check() {
        Bounds.says(T, "CHECK: who is told and LIVING (1), DEAD (0): right, or the first that is not so.");
        StruckBeats x = Cities.of(16, 100000);
        Cities.law(x, "x(k=15)");
        x.days(1);
        int[] row = new int[16];
        java.util.Arrays.fill(row, 0, 15, 1);
        Cities.feed(x, row);
        due(x.check(16), -1);
        for (int p = 0; p < 16; p++) {
            row[p] ^= 1;
            row[15] = p < 15 ? 7 : row[15];
            Cities.feed(x, row);
            due(x.check(16), p);
            row[p] ^= 1;
        }
    }

    private static void ownMemory() {
        Bounds.says(T, "All memory is the city's own.");
        StruckBeats before = Cities.full(Cities.LONG);
        StruckBeats x = Cities.full(Cities.LONG);
        // What others are told meanwhile, one of them made before, changes nothing.
        Cities.law(new StruckBeats(), "p1(1=1)");
        before.check(0);
        Cities.law(before, "x(1=1)");
        Cities.ledger(before, "a>b1");
        Cities.routine(before, 0, "9o");
        before.days(60);
        before.keep();
        before.seed(1);
        Bounds.due(Cities.seen(x).equals(Cities.seen(Cities.full(Cities.LONG))), true);
        due(new StruckBeats().count(1), 0);
        due(new StruckBeats().undo() ? 1 : 0, 0);
    }

    private static void refusal() {
        Bounds.says(T, "A call that is refused (NONE, false) changes nothing but the tape, where it is told.");
        Bounds.refused(Cities.SHORT, 0, x -> x.person(16, 1, 1) ? 1 : 0);
        Bounds.refused(Cities.SHORT, 0, x -> x.seed(65536) ? 1 : 0);
        Bounds.refused(Cities.LONG, -1, x -> x.feed(1, 2, 3, 4, 5));
        Bounds.refused(Cities.LONG, -1, x -> x.law(241));
        Bounds.refused("", -1, x -> x.days(61));

        Bounds.says(T, "The constants: `NONE = -1`: There is none.");
        due(StruckBeats.NONE, -1);
    }
}
