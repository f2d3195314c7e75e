/** The words with which the document begins, each with a plain case of what it tells. */
final class WhatItIs {
    private static final String T = "What it is";

    private WhatItIs() {
    }

    static void all() {
        city();
        daysGoBy();
        whatIsReckoned();
        whatTheTapeTells();
        keptAndUndone();
        allCalls();
    }

    private static void says(String words) {
        Bounds.says(T, words);
    }

    private static void due(long got, long want) {
        Bounds.due(got, want);
    }

    private static StruckBeats fed(int... bytes) {
        StruckBeats x = new StruckBeats();
        Cities.feed(x, bytes);
        return x;
    }

    private static void city() {
        says("Heartbeats are the bell founders' debts: a city in which everyone is struck so many beats at birth, to a stroke");
        StruckBeats x = new StruckBeats();
        due(x.person(0, 123456789, 0) ? 1 : 0, 1);
        due(x.person(15, 1, 0) ? 1 : 0, 1);
        due(x.personIs(0, 0), 123456789);
        due(x.personIs(15, 0), 1);
        due(x.personIs(15, 1), 0);

        says("days told as texts of what one does hour by hour, in a language with rounds");
        due(Cities.routine(x, 0, "2(s3(wc))r"), 15);
        Cities.law(x, "p10+d(1=1)");
        int[] does = {0, 2, 1, 2, 1, 2, 1, 0, 2, 1, 2, 1, 2, 1, 3, 0, 0, 0, 0, 0, 0, 0, 0, 0};
        for (int hour = 0; hour < 24; hour++) {
            due(x.costs(0, hour), 60 * (10 + does[hour]));
        }

        says("loans of beats as texts of a ledger");
        due(Cities.ledger(x, "a>p400@5/30;p>a7"), 2);
        int[] first = {0, 15, 400, 5, 30, 400};
        int[] second = {15, 0, 7, 0, 0, 7};
        for (int what = 0; what <= 5; what++) {
            due(x.loanIs(0, what), first[what]);
            due(x.loanIs(1, what), second[what]);
        }
    }

    private static void daysGoBy() {
        says("days gone by one after the other by a law as a text of how fast a heart goes, how loans grow, "
            + "what is given to the calm, with drawn numbers");
        StruckBeats x = Cities.of(3, 100000);
        Cities.routine(x, 1, "9s9s6c");
        Cities.ledger(x, "a>b1000@10/100");
        Cities.law(x, "x(k=2&h=0);p1+w(k=0);p1(1=1);i50(d=1)");
        int spent = 0;
        for (int day = 1, draws = 0; day <= 2; day++) {
            for (int hour = 0; hour < 24; hour++) {
                spent += 60 * (1 + Cities.drawn(1, draws + 1) % 10);
                // One draw for each who lives as the hour begins: c dies in the first hour of all.
                draws += day == 1 && hour == 0 ? 3 : 2;
            }
            due(x.days(1), day == 1 ? 1 : 0);
            due(x.count(0), day);
            due(x.personIs(0, 0), 100000 - spent + 100 * day);
            due(x.personIs(1, 0), 100000 - 1440 * day - 100 * day + 50 * day);
            due(x.loanIs(0, 5), 1000);
            due(x.count(3), 100000 - 50 * day);
            due(x.count(7), Cities.drawn(1, draws));
        }

        says("who dies when, at which hour, what a day costs");
        StruckBeats y = Cities.of(2, 200000);
        Cities.law(y, "x(k=1&t=1&h=5);p60+h(1=1)");
        int upToHour5 = 60 * (5 * 60 + 0 + 1 + 2 + 3 + 4);
        due(y.costs(0, 24), 60 * (24 * 60 + 276));
        due(y.dies(1, 60), 2);
        due(y.tried(2, 1), 200000 - 60 * (24 * 60 + 276) - upToHour5);
    }

    private static void whatIsReckoned() {
        says("loans that go in rings");
        StruckBeats x = Cities.of(4, 100000);
        Cities.ledger(x, "a>b5;b>c5;c>d5;d>b5");
        due(x.rings(0), 3);
        due(x.rings(1), 14);

        says("hiccups passed on");
        Cities.routine(x, 0, "rw");
        Cities.routine(x, 1, "ws");
        Cities.routine(x, 2, "9(r)9(r)6r");
        Cities.routine(x, 3, "9(o)9(o)6f");
        due(x.hiccups(1, 0), 7);
        due(x.hiccups(1, 1), 3);
    }

    private static void whatTheTapeTells() {
        says("the day that gives most joy for so many beats");
        due(fed(1, 1, 3, 9).joy(2, 40, 100), 88);
        due(fed(1, 1, 3, 9).joy(2, 40, 1), 8);

        says("how few payments settle all");
        due(fed(Cities.bytes(32768 + 6, 32768 - 4, 32768 - 2, 32768 + 1, 32768 - 1)).settled(5, 0), 3);

        says("a run on the bank");
        due(fed(2, 0, 1, 9, 3).run(5, 0), 4);

        says("tables of lives and what one may yet expect");
        due(fed(200, 150, 75, 25).table(4, 101), 2);
        due(fed(200, 150, 75, 25).table(4, 201), 3);

        says("hearts that beat at once");
        due(fed(2, 7, 3, 5).atOnce(0, 0), 23);

        says("a pulse found from beats that were heard");
        due(fed(Cities.bytes(100, 130, 175)).pulse(3, 0), 15);

        says("stairs climbed most cheaply");
        due(fed(10, 40, 12, 12).stairs(4, 0), 10);

        says("a row of bells for a number");
        due(fed(9, 4).bells(2, 30), 5);
    }

    private static void keptAndUndone() {
        says("kept and undone");
        StruckBeats x = Cities.of(2, 500000);
        due(x.keep(), 0);
        x.days(6);
        due(x.count(2), 0);
        due(x.undo() ? 1 : 0, 1);
        due(x.count(2), 3);
        due(x.personIs(1, 0), 500000);
    }

    private static void allCalls() {
        says("An object is used for at most 512 calls after it has been made; what later calls answer is free.");
        StruckBeats x = new StruckBeats();
        due(x.person(0, 999999999, 0) ? 1 : 0, 1);
        for (int day = 1; day <= 510; day++) {
            due(x.days(1), 0);
        }
        // The 512th call.
        due(x.personIs(0, 0), 999999999 - 510 * 86400);
    }
}
