/** The bounds of people, of what the law says, and of the days that go by. */
final class BoundsOfDays {
    private static final String T = "Terms";
    private static final int MOST = 999999999;

    private BoundsOfDays() {
    }

    static void all() {
        calls();
        people();
        loans();
        atFirst();
        pulseOfTheLaw();
        giftOfTheLaw();
        deathByTheLaw();
        firstThatHolds();
        casesAndTests();
        sumsFromTheLeft();
        letters();
        lettersOfOthers();
        lettersOfGifts();
        thirtyTwoBits();
        dividedByNothing();
        hours();
        parishHasItsBound();
        loansOfADay();
        payments();
        gifts();
        agesAndTheLastDay();
        draws();
    }

    private static void due(long got, long want) {
        Bounds.due(got, want);
    }

    /** What hour 0 costs the first one, who sleeps, by a law. */
    private static int cost(String law) {
        StruckBeats x = Cities.of(1, 100000);
        Cities.law(x, law);
        return x.costs(0, 0);
    }

    /** Whether the case of a rule holds, of the first one in hour 0. */
    private static boolean holds(String when) {
        int cost = cost("p9(" + when + ")");
        due(cost == 540 || cost == 3600, 1);
        return cost == 540;
    }

    private static void due(boolean got, int want) {
        Bounds.due(got ? 1 : 0, want);
    }

    private static void calls() {
        Bounds.says("What it is", "An object is used for at most 512 calls after it has been made; what later calls answer is free.");
        StruckBeats x = new StruckBeats();
        for (int call = 1; call <= 510; call++) {
            x.seed(call);
        }
        due(x.person(15, 5, 5), 1);
        due(x.count(1), 1 << 15);
    }

    private static void people() {
        Bounds.says(T, "PEOPLE a to p (0 to 15): told or not");
        StruckBeats x = new StruckBeats();
        due(x.person(-1, 1, 0), 0);
        due(x.person(16, 1, 0), 0);
        due(x.count(1), 0);
        due(x.person(0, 1, 0), 1);
        due(x.person(15, 1, 0), 1);
        due(x.count(1), 0x8001);
        due(x.personIs(1, 0), -1000000000);
        due(x.personIs(14, 0), -1000000000);
        due(Cities.ledger(x, "a>p1;p>a1"), 2);
        due(x.loanIs(1, 0), 15);

        Bounds.says(T, "BEATS (0 to 999999999; told ones 1 at least)");
        due(x.person(3, 0, 0), 0);
        due(x.person(3, -1, 0), 0);
        due(x.person(3, 1, 0), 1);
        due(x.personIs(3, 0), 1);
        due(x.person(3, MOST, 0), 1);
        due(x.personIs(3, 0), MOST);
        due(x.person(3, MOST + 1, 0), 0);
        due(x.personIs(3, 0), MOST);
        x.days(1);
        due(x.personIs(0, 0), 0);

        Bounds.says(T, "an AGE in days (0 to 99999)");
        due(x.person(4, 1, -1), 0);
        due(x.person(4, 1, 0), 1);
        due(x.personIs(4, 1), 0);
        due(x.person(4, 1, 99999), 1);
        due(x.personIs(4, 1), 99999);
        due(x.person(4, 1, 100000), 0);
        due(x.personIs(4, 1), 99999);
    }

    private static void loans() {
        Bounds.says(T, "LOANS (24 at most): from whom, to whom, so much (1 to 999999), a RATE (0 to 99 in the hundred a day), "
            + "so much paid a day (0 to 9999), DUE.");
        StruckBeats x = Cities.of(2, MOST);
        due(Cities.ledger(x, Cities.loans(24)), 24);
        due(x.loanIs(23, 5), 1);
        due(x.loanIs(24, 5), -1);
        due(Cities.ledger(x, Cities.loans(25)), -4120);
        due(Cities.ledger(x, "a>b0"), -3003);
        due(Cities.ledger(x, "a>b1000000"), -2009);
        due(Cities.ledger(x, "a>b1@100"), -2007);
        due(Cities.ledger(x, "a>b1/10000"), -2009);
        due(x.count(4), 24);
        due(Cities.ledger(x, "a>b999999@99/9999;a>b1@0/0"), 2);
        due(x.loanIs(0, 2), 999999);
        due(x.loanIs(0, 3), 99);
        due(x.loanIs(0, 4), 9999);
        due(x.loanIs(0, 5), 999999);
        due(x.loanIs(1, 2), 1);
        due(x.loanIs(1, 3), 0);
        due(x.loanIs(1, 4), 0);
        x.days(1);
        // 99 in the hundred of 999999 are 989999.01, rounded up 990000.
        due(x.loanIs(0, 5), 999999 + 990000 - 9999);
        due(x.loanIs(1, 5), 1);
    }

    private static void atFirst() {
        Bounds.says(T, "a ROUTINE (none at first), LIVING or DEAD.");
        StruckBeats x = Cities.of(2, 86400);
        x.person(1, 86401, 0);
        due(x.personIs(0, 3), 0);
        Cities.law(x, "p60(d=0);p1(1=1)");
        due(x.costs(0, 24), 86400);
        due(x.personIs(0, 2), 1);
        x.days(1);
        due(x.personIs(0, 2), 0);
        due(x.personIs(1, 2), 1);

        Bounds.says(T, "THE DAY (0 at first).");
        due(new StruckBeats().count(0), 0);
        due(new StruckBeats().keep(), 0);
        due(x.count(0), 1);

        Bounds.says(T, "THE PARISH: BEATS it has (0 at first; 999999999 at most).");
        due(new StruckBeats().count(3), 0);
        x = Cities.of(16, MOST);
        Cities.law(x, "x(1=1)");
        due(x.tried(1, 1), MOST);
        x.days(1);
        due(x.count(3), MOST);
    }

    private static void pulseOfTheLaw() {
        Bounds.says(T, "p beats a minute (1 to 255; none: 60)");
        int[] beats = {0, 1, 2, 254, 255, 256, 99999};
        int[] bounded = {1, 1, 2, 254, 255, 255, 255};
        for (int i = 0; i < beats.length; i++) {
            due(cost("p" + beats[i] + "(1=1)"), 60 * bounded[i]);
        }
        due(cost("p0-1(1=1)"), 60);
        due(cost("p1(1=2)"), 3600);
        due(cost("x(1=2);i5(1=1)"), 3600);
        due(Cities.of(1, 1).costs(0, 0), 3600);
        for (int i = 0; i < beats.length; i++) {
            StruckBeats x = Cities.of(1, MOST);
            Cities.law(x, "p" + beats[i] + "(1=1)");
            due(x.tried(1, 100), MOST - 24 * 60 * bounded[i]);
        }
    }

    /** What the first one has of a parish of 100000 after a day, by a rule of i. */
    private static int gift(String rule) {
        StruckBeats x = Cities.of(2, 100000);
        Cities.law(x, "x(k=1);p1(1=1)" + rule);
        x.days(1);
        int given = x.personIs(0, 0) - (100000 - 1440);
        due(x.count(3), 100000 - given);
        return given;
    }

    private static void giftOfTheLaw() {
        Bounds.says(T, "i BEATS from THE PARISH at the end of a day (0 to 9999; none: 0)");
        due(gift(""), 0);
        due(gift(";i7(1=2)"), 0);
        due(gift(";i0-1(1=1)"), 0);
        due(gift(";i0(1=1)"), 0);
        due(gift(";i1(1=1)"), 1);
        due(gift(";i9998(1=1)"), 9998);
        due(gift(";i9999(1=1)"), 9999);
        due(gift(";i10000(1=1)"), 9999);
        due(gift(";i99999(1=1)"), 9999);
    }

    private static int dying(String law) {
        StruckBeats x = Cities.of(2, 1000000);
        due(Cities.law(x, law) > 0, 1);
        return x.tried(1, 0);
    }

    private static void deathByTheLaw() {
        Bounds.says(T, "x one dies in an hour (any will do; without an x in THE LAW nobody does by it)");
        due(dying("p1(1=1)"), 0);
        due(dying("p1(1=1);i5(1=1)"), 0);
        due(dying("x(1=2)"), 0);
        due(dying("x(1=1)"), 2);
        due(dying("x(1=2);x(k=1)"), 1);
        due(dying("x(k=1);x(1=2)"), 1);
        due(dying("x(k=1);p1(1=1);x(k=0)"), 2);
        due(dying("x(h=23)"), 2);
        due(dying("x(h=24)"), 0);
    }

    private static void firstThatHolds() {
        Bounds.says(T, "of the first RULE of p, i whose C holds the E (beyond its bounds the bound).");
        due(cost("p7(1=1);p9(1=1)"), 420);
        due(cost("p7(1=2);p9(1=1)"), 540);
        due(cost("i3(1=1);x(1=1);p9(1=1);p7(1=1)"), 540);
        due(cost("p7(1=2);".repeat(15) + "p9(1=1)"), 540);
        due(cost("p300(1=1);p9(1=1)"), 15300);
        due(cost("p0(1=1);p9(1=1)"), 60);
        due(gift(";i7(1=1);i9(1=1)"), 7);
        due(gift(";i7(1=2);i9(1=1)"), 9);
        due(gift(";i0(1=1);i9(1=1)"), 0);
    }

    private static void casesAndTests() {
        Bounds.says(T, "C: PARTS with a | between two, one of which must hold; a PART: TESTS with an & between two, all of which must; "
            + "a TEST: !TEST, (C), or E, one of < > =, and E.");
        String[] true_ = {"1=1", "1<2", "2>1", "!1=2", "!!1=1", "(1=1)", "!(1=2)", "1=2|1=1", "1=1|1=2", "1=1&1=1", "1=2&1=1|1=1",
            "1=1|1=1&1=2", "(1=2|1=1)&1=1", "!1=2&1=1", "1=2|1=2|1=1", "1=1&1=1&1=1", "!(1=1&1=2)", "1=2&1=2|1=2|1=1&1=1"};
        String[] false_ = {"1=2", "2=1", "1<1", "2<1", "1>1", "1>2", "!1=1", "!!1=2", "(1=2)", "1=2|1=2", "1=1&1=2", "1=2&1=1",
            "1=2|1=1&1=2", "1=1&1=2|1=2", "(1=1|1=1)&1=2", "!1=2&1=2", "1=1&1=1&1=2", "1=1&1=2&1=1", "!(1=1|1=2)"};
        for (String when : true_) {
            due(holds(when), 1);
        }
        for (String when : false_) {
            due(holds(when), 0);
        }
    }

    private static void sumsFromTheLeft() {
        Bounds.says(T, "E: TERMS with + or - between two; a TERM: FACTORS with one of * / % between two; from the left on");
        String[] sums = {"9-3-2=4", "9-3+2=8", "2+3*4=14", "2*3+4=10", "[2+3]*4=20", "9/2*2=8", "9*2/4=4", "99%10*2=18", "7/2%2=1",
            "9-[3-2]=8", "[0-7]/2=0-3", "[0-7]%2=0-1", "7/[0-2]=0-3", "7%[0-2]=1", "1+2*3-4/2*3+5%3=3", "2-3*2-1=0-5"};
        for (String sum : sums) {
            due(holds(sum), 1);
        }
    }

    private static void letters() {
        Bounds.says(T, "k who, d what he does (0 s, 1 c, 2 w, 3 r, 4 l, 5 f, 6 o), h the hour (0 to 23)");
        StruckBeats x = Cities.of(16, 100000);
        Cities.law(x, "p1+k(1=1)");
        due(x.costs(0, 0), 60);
        due(x.costs(15, 0), 960);
        Cities.law(x, "p1+d(1=1)");
        Cities.routine(x, 0, "scwrlfo");
        for (int does = 0; does < 7; does++) {
            due(x.costs(0, does), 60 * (1 + does));
        }
        due(x.costs(0, 7), 60);
        Cities.law(x, "p1+h(1=1)");
        due(x.costs(0, 0), 60);
        due(x.costs(0, 23), 60 * 24);
        due(dying("x(h<0|h>23)"), 0);

        Bounds.says(T, "a AGE through 365, b BEATS through 1000");
        int[] ages = {0, 364, 365, 729, 730, 99999};
        int[] years = {0, 0, 1, 1, 2, 273};
        for (int i = 0; i < ages.length; i++) {
            x.person(0, 100000, ages[i]);
            Cities.law(x, "p1(a=" + years[i] + ")");
            due(x.costs(0, 0), 60);
        }
        int[] beats = {1, 999, 1000, 1999, 2000, MOST};
        int[] thousands = {0, 0, 1, 1, 2, 999999};
        for (int i = 0; i < beats.length; i++) {
            x.person(0, beats[i], 0);
            Cities.law(x, "p1(b=" + thousands[i] / 10 + "*10+" + thousands[i] % 10 + ")");
            due(x.costs(0, 0), 60);
        }

        Bounds.says(T, "m LOANS of which he is the debtor (DUE above 0), t THE DAY modulo 100");
        x = Cities.of(2, MOST);
        Cities.law(x, "p1+m(1=1)");
        due(x.costs(1, 0), 60);
        Cities.ledger(x, Cities.loans(24));
        due(x.costs(1, 0), 60 * 25);
        due(x.costs(0, 0), 60);
        Cities.ledger(x, "a>b1/1;a>b2/1;b>a5");
        due(x.costs(1, 0), 60 * 3);
        x.days(1);
        due(x.costs(1, 0), 60 * 2);
        x.days(1);
        due(x.costs(1, 0), 60);
        Cities.law(x, "p1+t(1=1)");
        due(x.costs(0, 0), 60 * 3);
        x.days(60);
        x.days(37);
        due(x.count(0), 99);
        due(x.costs(0, 0), 60 * 100);
        x.days(1);
        due(x.costs(0, 0), 60);
        x.days(1);
        due(x.costs(0, 0), 120);
    }

    private static void lettersOfOthers() {
        Bounds.says(T, "n how many others that are LIVING by then do the same in that hour");
        StruckBeats x = Cities.of(1, 100000);
        Cities.law(x, "p1+n(1=1)");
        due(x.tried(1, 100), 100000 - 24 * 60);
        x = Cities.of(16, 100000);
        Cities.law(x, "p1+n(1=1)");
        due(x.tried(1, 100), 100000 - 24 * 60 * 16);
        due(x.tried(1, 115), 100000 - 24 * 60 * 16);
        // The one who does something else in the last hour is alone in it.
        Cities.routine(x, 15, "9(2s)5so");
        due(x.tried(1, 115), 100000 - 23 * 60 * 16 - 60);
        due(x.tried(1, 100), 100000 - 23 * 60 * 16 - 60 * 15);
        x = Cities.of(2, 100000);
        Cities.law(x, "x(k=0&h=0);p1+n(1=1)");
        due(x.tried(1, 101), 100000 - 24 * 60);
        Cities.law(x, "x(k=1&h=0);p1+n(1=1)");
        due(x.tried(1, 100), 100000 - 24 * 60 - 60);
        x.days(1);
        due(x.tried(1, 100), 100000 - 24 * 60 - 60 - 24 * 60);

        Bounds.says(T, "w the DRAW of the hour");
        int[] seeds = {25, 0, 1};
        int[] draws = {0, 9, 2};
        for (int i = 0; i < 3; i++) {
            x = Cities.of(1, 100000);
            x.seed(seeds[i]);
            Cities.law(x, "x(h=0&w=" + draws[i] + ")");
            due(x.tried(1, 0), 1);
            Cities.law(x, "x(h=0&!w=" + draws[i] + ")");
            due(x.tried(1, 0), 0);
        }
        x = Cities.of(16, 100000);
        Cities.law(x, "x(w<0|w>9)");
        due(x.tried(1, 0), 0);
    }

    private static void lettersOfGifts() {
        Bounds.says(T, "(in i: d what he does in hour 23, h 24, n 0, w 0)");
        due(gift(";i5(h=24)"), 5);
        due(gift(";i5(h=23)"), 0);
        due(gift(";i5(w=0)"), 5);
        due(gift(";i5(w>0)"), 0);
        StruckBeats x = Cities.of(3, 100000);
        Cities.law(x, "x(k=2);p1(1=1);i10+n(d=6);i20+n(d=0)");
        due(Cities.routine(x, 0, "r9(2w)3wo"), 23);
        x.days(1);
        due(x.personIs(0, 0), 100000 - 1440 + 20);
        due(Cities.routine(x, 0, "r9(2w)4wo"), 24);
        x.days(1);
        due(x.personIs(0, 0), 100000 - 2880 + 30);
        due(x.personIs(1, 0), 100000 - 2880 + 40);
    }

    private static void thirtyTwoBits() {
        Bounds.says(T, "All is reckoned with 32 bits, as the machine does");
        String most = "99999*21474+99999+5122";
        String least = "0-99999*21474-99999-5122-1";
        due(99999 * 21474 + 99999 + 5122, Integer.MAX_VALUE);
        due(holds(most + ">0"), 1);
        due(holds(most + "+1>0"), 0);
        due(holds(most + "+1=" + least), 1);
        due(holds(least + "<0"), 1);
        due(holds(least + "-1<0"), 0);
        due(holds(least + "-1=" + most), 1);
        due(holds("[" + least + "]*[0-1]=" + least), 1);
        due(holds("[" + least + "]/[0-1]=" + least), 1);
        due(holds("[" + least + "]%[0-1]=0"), 1);
        due(holds("46340*46340>0"), 1);
        due(holds("46341*46341>0"), 0);
        due(holds("65536*65536=0"), 1);
        due(cost("p" + most + "+1(1=1)"), 60);
        due(cost("p" + most + "(1=1)"), 15300);
    }

    private static void dividedByNothing() {
        Bounds.says(T, "what is divided by 0 is REFUSED: then the whole C of the RULE does not hold, the E of it is 0.");
        due(holds("1/0=0"), 0);
        due(holds("1%0=0"), 0);
        due(holds("0/0=0"), 0);
        due(holds("0/1=0"), 1);
        due(holds("!1/0=0"), 0);
        due(holds("!(1%0=0)"), 0);
        due(holds("1/0=0|1=1"), 0);
        due(holds("(1/[k-k]=0)|1=1"), 0);
        due(cost("p9(1/0=0);p7(1=1)"), 420);
        due(dying("x(1/0=0)"), 0);
        due(dying("x(!1/0=0)"), 0);
        due(dying("x(1/0=0);x(1=1)"), 2);
        due(cost("p9/0(1=1)"), 60);
        due(cost("p9%0(1=1)"), 60);
        due(cost("p9/0+200(1=1);p7(1=1)"), 60);
        due(cost("p200+[9%[1-1]](1=1)"), 60);
        due(gift(";i9/0(1=1);i7(1=1)"), 0);
        due(gift(";i100+9%0(1=1)"), 0);

        Bounds.says(T, "Of a C as much is asked, from the left, as matters.");
        due(holds("1=1|1/0=0"), 1);
        due(holds("1=2|1/0=0"), 0);
        due(holds("1=1&1=1|1/0=0"), 1);
        due(holds("1=2&1/0=0|1=1"), 1);
        due(holds("1=1&1/0=0|1=1"), 0);
        due(holds("!(1=2&1/0=0)"), 1);
        due(holds("!(1=1|1/0=0)"), 0);
        due(holds("!(1=1&1/0=0)"), 0);
        due(holds("(1=1|1/0=0)&1=1"), 1);
        due(holds("1=2&(1=1|1/0=0)|1=1"), 1);
        due(holds("1=2&1/0=0&1/0=0|1=2|1=1|1/0=0|1/0=0"), 1);
    }

    private static void hours() {
        Bounds.says(T, "A DAY: (1) hour by hour, of each hour each LIVING told one by numbers, with a DRAW (p, x asked with it): by x he dies; "
            + "else his BEATS are 60 times p less; are they 0 or less, he dies (BEATS 0).");
        int[] beats = {1, 59, 60, 61, 24 * 60, 24 * 60 + 1};
        int[] draws = {1, 1, 1, 2, 24, 24};
        for (int i = 0; i < beats.length; i++) {
            StruckBeats x = Cities.of(1, beats[i]);
            Cities.law(x, "p1(1=1)");
            due(x.days(1), i < 5 ? 1 : 0);
            due(x.personIs(0, 0), i < 5 ? 0 : 1);
            due(x.count(3), 0);
            due(x.count(7), Cities.drawn(1, draws[i]));
        }
        StruckBeats x = new StruckBeats();
        x.person(3, 60, 0);
        x.person(15, 61, 0);
        Cities.law(x, "p1(1=1)");
        due(x.days(1), 2);
        // Hour 0: both draw; hour 1: the second one alone; nobody behind it.
        due(x.count(7), Cities.drawn(1, 3));
        due(new StruckBeats().days(60), 0);
        StruckBeats empty = new StruckBeats();
        empty.days(60);
        due(empty.count(7), 1);
        due(empty.count(0), 60);
        // By x one dies ahead of what the hour costs him.
        x = Cities.of(1, 500);
        Cities.law(x, "x(h=1);p1(1=1)");
        x.days(1);
        due(x.count(3), 440);
        // The draws of one hour go by numbers: of 39022 and 61087.
        x = Cities.of(2, 100000);
        Cities.law(x, "x(h=0&w=2&k=0);x(h=0&w=7&k=1)");
        due(x.days(1), 2);
    }

    private static void parishHasItsBound() {
        Bounds.says(T, "Who dies leaves his BEATS to THE PARISH (he has 0 then; THE PARISH 999999999 at most, what is more is lost).");
        int[] second = {1, 2, 3, MOST};
        for (int beats : second) {
            StruckBeats x = Cities.of(2, beats);
            x.person(0, MOST - 2, 0);
            Cities.law(x, "x(1=1)");
            due(x.days(1), 2);
            due(x.count(3), Math.min(MOST, MOST - 2 + (long) beats));
            due(x.personIs(0, 0), 0);
            due(x.personIs(1, 0), 0);
        }
        StruckBeats x = Cities.of(1, 3599);
        due(x.days(1), 1);
        due(x.count(3), 0);
    }

    private static void loansOfADay() {
        Bounds.says(T, "(2) LOANS, one by one: is the lender or the debtor DEAD, it stays as it is");
        String[] deaths = {"x(k=0)", "x(k=1)", "x(k<2)", "x(k>1)"};
        for (int i = 0; i < 4; i++) {
            StruckBeats x = Cities.of(3, 200000);
            Cities.law(x, deaths[i]);
            Cities.ledger(x, "a>b100@10/7");
            x.days(1);
            due(x.loanIs(0, 5), i < 3 ? 100 : 103);
            due(x.count(4), 1);
        }
        // One by one: what the first loan brings pays for the second.
        StruckBeats x = Cities.of(3, 1500);
        Cities.law(x, "p1(1=1)");
        Cities.ledger(x, "a>b500/500;b>c500/500");
        x.days(1);
        due(x.loanIs(0, 5), 500 - 59);
        due(x.loanIs(1, 5), 500 - 59);
        due(x.personIs(0, 0), 60 + 59);
        due(x.personIs(1, 0), 60);
        due(x.personIs(2, 0), 1);
        x = Cities.of(3, 1500);
        Cities.law(x, "p1(1=1)");
        Cities.ledger(x, "b>c500/500;a>b500/500");
        x.days(1);
        due(x.loanIs(1, 5), 500 - 118);
        due(x.personIs(1, 0), 1);

        Bounds.says(T, "else DUE is more by the RATE of it (rounded up; 9999999 at most)");
        int[][] growths = {{1, 0, 1}, {1, 1, 2}, {100, 1, 101}, {101, 1, 103}, {99, 99, 198}, {100, 99, 199}, {101, 99, 201}, {200, 50, 300}};
        for (int[] g : growths) {
            x = Cities.of(2, MOST);
            Cities.ledger(x, "a>b" + g[0] + "@" + g[1]);
            x.days(1);
            due(x.loanIs(0, 5), g[2]);
        }
        x = Cities.of(2, MOST);
        Cities.ledger(x, "a>b999999@99;a>b909091@10;a>b1@99/9");
        for (int day = 0; day < 30; day++) {
            x.days(1);
        }
        due(x.loanIs(0, 5), 9999999);
        due(x.loanIs(1, 5), 9999999);
        due(x.loanIs(2, 5), 0);
        due(growthTo("999999@99", 3), 999999 + 990000 + 1970100 + 3920499);
        due(growthTo("999999@99", 4), 9999999);
    }

    private static int growthTo(String loan, int days) {
        StruckBeats x = Cities.of(2, MOST);
        Cities.ledger(x, "a>b" + loan);
        x.days(days);
        return x.loanIs(0, 5);
    }

    /** What b pays a on a day that costs each 1440 beats, by a loan, of so many beats. */
    private static int paid(String loan, int beats) {
        StruckBeats x = Cities.of(2, 100000);
        x.person(1, 1440 + beats, 0);
        Cities.law(x, "p1(1=1)");
        Cities.ledger(x, "a>b" + loan);
        int before = x.loanIs(0, 5);
        x.days(1);
        int paid = x.personIs(0, 0) - (100000 - 1440);
        due(x.personIs(1, 0), beats - paid);
        due(x.loanIs(0, 5), before - paid);
        return paid;
    }

    private static void payments() {
        Bounds.says(T, "then the debtor pays the least of what is paid a day, DUE, his BEATS less one: his BEATS and DUE are less, "
            + "the lender's BEATS more (999999999 at most).");
        due(paid("50/20", 1000), 20);
        due(paid("50/49", 1000), 49);
        due(paid("50/50", 1000), 50);
        due(paid("50/51", 1000), 50);
        due(paid("50/50", 51), 50);
        due(paid("50/50", 50), 49);
        due(paid("50/50", 2), 1);
        due(paid("50/50", 1), 0);
        due(paid("50", 1000), 0);
        due(paid("9999/9999", 10001), 9999);
        for (int more = 1439; more <= 1441; more++) {
            StruckBeats x = Cities.of(2, 100000);
            x.person(0, MOST, 0);
            Cities.law(x, "p1(1=1)");
            Cities.ledger(x, "a>b5000/" + more);
            x.days(1);
            due(x.personIs(0, 0), Math.min(MOST, MOST - 1440 + more));
            due(x.personIs(1, 0), 100000 - 1440 - more);
            due(x.loanIs(0, 5), 5000 - more);
        }
    }

    private static void gifts() {
        Bounds.says(T, "(3) Each LIVING one by numbers has i BEATS of THE PARISH (no more than it has, no more than to 999999999).");
        // The parish has 100: it is shared out by numbers.
        for (int gift = 49; gift <= 51; gift++) {
            StruckBeats x = Cities.of(2, 10000);
            x.person(5, 100, 0);
            Cities.law(x, "x(k=5);p1(1=1);i" + gift + "(1=1)");
            x.days(1);
            due(x.personIs(0, 0), 10000 - 1440 + gift);
            due(x.personIs(1, 0), 10000 - 1440 + Math.min(gift, 100 - gift));
            due(x.personIs(5, 0), 0);
            due(x.count(3), gift == 49 ? 2 : 0);
        }
        for (int gift = 1439; gift <= 1441; gift++) {
            StruckBeats x = Cities.of(1, MOST);
            x.person(5, 10000, 0);
            Cities.law(x, "x(k=5);p1(1=1);i" + gift + "(1=1)");
            x.days(1);
            due(x.personIs(0, 0), gift == 1439 ? MOST - 1 : MOST);
            due(x.count(3), 10000 - Math.min(gift, 1440));
        }
        due(Cities.of(1, 100000).tried(1, 1), 0);
    }

    private static void agesAndTheLastDay() {
        Bounds.says(T, "(4) AGE of each LIVING one is one more (99999 at most).");
        StruckBeats x = Cities.of(3, MOST);
        x.person(1, MOST, 99998);
        x.person(2, 1, 5);
        x.days(1);
        due(x.personIs(0, 1), 1);
        due(x.personIs(1, 1), 99999);
        due(x.personIs(2, 1), 5);
        x.days(1);
        due(x.personIs(1, 1), 99999);

        Bounds.says(T, "THE DAY is one more (9999 at most: then none goes by).");
        x = Cities.of(1, MOST);
        Cities.law(x, "p1(1=1)");
        for (int i = 0; i < 166; i++) {
            x.days(60);
        }
        x.days(38);
        due(x.count(0), 9998);
        x.keep();
        due(x.days(1), 0);
        due(x.count(0), 9999);
        int beats = x.personIs(0, 0);
        int drawn = x.count(7);
        due(x.days(1), 0);
        due(x.days(60), 0);
        due(x.count(0), 9999);
        due(x.personIs(0, 0), beats);
        due(x.personIs(0, 1), 9999);
        due(x.count(7), drawn);
        x.undo();
        due(x.days(60), 0);
        due(x.count(0), 9999);
        due(x.personIs(0, 0), beats);
    }

    private static void draws() {
        Bounds.says(T, "DRAWS: X = (25173 X + 13849) modulo 65536 (X is THE SEED at first, 1): X modulo 10.");
        int[] seeds = {1, 0, 65535, 2, 3};
        int[] next = {39022, 13849, 54212, 64195, 23832};
        for (int i = 0; i < seeds.length; i++) {
            StruckBeats x = Cities.of(1, 1);
            if (i > 0) {
                x.seed(seeds[i]);
            }
            due(x.count(7), seeds[i]);
            x.days(1);
            due(x.count(7), next[i]);
            x = Cities.of(1, 100000);
            x.seed(seeds[i]);
            Cities.law(x, "x(h=0&w=" + next[i] % 10 + ")");
            due(x.days(1), 1);
        }
    }
}
