/** At least one test for each promise of the document, by its number; what is due is reckoned by hand. */
public final class PromiseTest {
    private static int wrong = 0;
    private static int asked = 0;

    private static void due(String what, long got, long want) {
        asked++;
        if (got != want) {
            wrong++;
            System.out.println(what + ": answered " + got + ", due is " + want);
        }
    }

    private static void due(String what, boolean got, boolean want) {
        due(what, got ? 1 : 0, want ? 1 : 0);
    }

    private static void promise01New() {
        StruckBeats x = new StruckBeats();
        int[] counts = {0, 0, 0, 0, 0, 0, 0, 1, -2};
        for (int what = 0; what < counts.length; what++) {
            due("1 count " + what, x.count(what), counts[what]);
        }
        due("1 undo", x.undo(), false);
        due("1 longest", x.longest(), -2);
        due("1 loan", x.loanIs(0, 0), -1);
        due("1 none", StruckBeats.NONE, -1);
    }

    private static void promise02Person() {
        StruckBeats x = new StruckBeats();
        due("2 least", x.person(0, 1, 0), true);
        due("2 most", x.person(15, 999999999, 99999), true);
        int[][] bad = {{-1, 1, 0}, {16, 1, 0}, {1, 0, 0}, {1, -1, 0}, {1, 1000000000, 0}, {1, 1, -1}, {1, 1, 100000}};
        for (int[] b : bad) {
            due("2 bad", x.person(b[0], b[1], b[2]), false);
        }
        due("2 told", x.count(1), 0x8001);
        Cities.routine(x, 0, "3r");
        due("2 again", x.person(0, 77, 5), true);
        due("2 beats", x.personIs(0, 0), 77);
        due("2 age", x.personIs(0, 1), 5);
        due("2 the routine stays", x.personIs(0, 3), 3);
        x.days(1);
        due("2 dead", x.personIs(0, 2), 0);
        due("2 told anew", x.person(0, 9, 9), true);
        due("2 living anew", x.personIs(0, 2), 1);
    }

    private static void promise03Feed() {
        StruckBeats x = new StruckBeats();
        for (int i = 1; i <= 13; i++) {
            due("3 feed", x.feed(0x01020304, 0, 0, 0, -1), 20 * i);
        }
        due("3 too many", x.feed(0, 0, 0, 0, 0), -1);
        due("3 stays", x.count(6), 260);
        due("4 no such n", x.law(241), -1);
        due("5 no such n", x.routine(0, 61), -1);
        due("6 no such n", x.ledger(201), -1);
        due("3 stays", x.count(6), 260);
        due("3 the highest first", x.stairs(4, 0), 13);
        due("3 empty then", x.count(6), 0);
        x.feed(0, 0, 0, 0, 0x00010200);
        due("3 the last int is last", x.table(20, 300), -3);
    }

    private static void promise04Law() {
        StruckBeats x = Cities.of(2, 1000000);
        due("4 no n", x.law(0), -1);
        x.feed(0, 0, 0, 0, 0);
        due("4 not so many", x.law(21), -1);
        due("4 no such n", x.law(241), -1);
        due("4 the tape stays", x.count(6), 20);
        due("4 fault", x.law(20), -1000);
        due("4 empty then", x.count(6), 0);
        due("4 rules", Cities.law(x, "p5(k=0);x(a>99);i3(m=1)"), 3);
        due("4 in place", Cities.law(x, "p7(1=1)"), 1);
        due("4 fault", Cities.law(x, "p8(1=1"), -1006);
        due("4 the one before stays", x.costs(0, 0), 420);
        due("4 rules stay", x.count(5), 1);
        String[] texts = {
            "", "p", "q1(1=1)", "p1", "p1(", "p1()", "p1(1)", "p1(1=)", "p1(1=1)x", "p1(1=1);", "p1(1=1);;", "x1(1=1)",
            "x(1=1", "x(1=1))", "x(1=1&)", "x(1=1|)", "x(1=1&|2=2)", "x(!)", "x(1+=1)", "x([1=1)", "x([1)=1)", "x(1]=1)",
            "x((1)=1)", "x(1==1)", "x(1<1<1)", "x(12345=1)", "x(123456=1)", "p123456(1=1)", "x(z=1)", "x(1 =1)",
            "x(k1=1)", "x(1k=1)", "p[1](1=1)", "p[](1=1)", "p1+(1=1)", "p-1(1=1)", "x(!1=1)", "x(!!!!!1=1)",
            "x(!!!!!!1=1)", "x((((((1=1))))))", "x(((((((1=1)))))))", "x([[[[[1]]]]]=1)", "x([[[[[[1]]]]]]=1)",
            "p[[[[[[1]]]]]](1=1)", "p[[[[[[[1]]]]]]](1=1)", "x(!(![(1=1)))", "x(!(!([[[1]]]=1)))", "x(!(!([1]=1)))",
            "x(!1=1&!!!!!2=2)", "x(!1=1&!!!!!!2=2)", "x((1=1)&((((((2=2))))))",
        };
        int[] want = {
            0, -1001, -1000, -1002, -1003, -1003, -1004, -1005, -1007, -1008, -1008, -1001,
            -1005, -1006, -1006, -1006, -1006, -1003, -1004, -1004, -1004, -1003,
            -1004, -1004, -1005, 1, -2007, -2006, -1002, -1003,
            -1003, -1003, 1, -1002, -1003, -1001, 1, 1,
            -5007, 1, -5007, 1, -5007,
            1, -5007, -1006, -5007, 1,
            1, -5012, -5013,
        };
        for (int i = 1; i < texts.length; i++) {
            due("4 " + texts[i], Cities.law(x, texts[i]), want[i]);
        }
        String many = "x(1=2);".repeat(16);
        due("4 sixteen", Cities.law(x, many.substring(0, 111)), 16);
        due("4 seventeen", Cities.law(x, many + "p"), -4112);
        due("4 seventeen i", Cities.law(x, many + "i!"), -4112);
        due("4 no seventeenth", Cities.law(x, many + "q"), -1112);
        due("4 its end", Cities.law(x, many), -1112);
        due("4 sixteen stay", x.count(5), 16);
        String longest = "p1" + "+1".repeat(116) + "(1=1)";
        due("4 240 bytes", longest.length() + 1, 240);
        due("4 long", Cities.law(x, longest + ";"), -1240);
        due("4 long", Cities.law(x, "p11" + longest.substring(2)), 1);
        due("4 long E", x.costs(0, 0), 60 * 127);
    }

    private static void promise05Routine() {
        StruckBeats x = Cities.of(2, 1000);
        x.feed(0, 0, 0, 0, 0);
        int[][] bad = {{-1, 1}, {16, 1}, {0, 0}, {0, -1}, {0, 21}, {0, 61}};
        for (int[] b : bad) {
            due("5 bad", x.routine(b[0], b[1]), -1);
        }
        due("5 the tape stays", x.count(6), 20);
        due("5 empty then", x.routine(0, 20), -1000);
        due("5 empty then", x.count(6), 0);
        String[] texts = {
            "s", "9w", "1w", "0w", "w9", "22w", "(w)", "3(w)", "2(2(2w))", "((w)(r))", "(((w", "((3(w", "((w)", "((w))", "()",
            "w)", "2()", "(", "2(", "x", "W", "w w", "9w9r6o", "9w9r7o", "9w9r6os", "3(8w)", "3(9w)", "(9w9r7o)", "2(9w4r)",
            "9w2(9r)", "9w2(7r)o", "9w2(7ro", "4(2(3w))", "4(2(3w)s)", "9(9w", "9w9w9w9x", "9w9w9x", "9s9s(9s)", "9s9s((7s))",
            "2(5(2(w)))", "s5(5(w))", "(w)2", "sc2(wr)3(lfo)",
        };
        int[] want = {
            1, 9, -1000, -1000, -1002, -1001, 1, 3, 8, 2, -5002, -5003, -1004, 1, -1001,
            -1001, -1002, -1001, -1002, -1000, -1000, -1001, 24, -6004, -6006, 24, -6000, -6005, -6000,
            -6002, 24, -1007, 24, -6000, -1004, -6004, -1005, -6005, -6006,
            -5005, -6001, -1004, 15,
        };
        for (int i = 0; i < texts.length; i++) {
            due("5 " + texts[i], Cities.routine(x, 0, texts[i]), want[i]);
        }
        due("5 a fault, the one before stays", x.personIs(0, 3), 15);
        due("5 of one not told", Cities.routine(x, 9, "2s"), 2);
        due("5 not told still", x.personIs(9, 3), -1000000000);
        Cities.law(x, "p1+d(1=1)");
        int[] does = {0, 1, 2, 3, 2, 3, 4, 5, 6, 4, 5, 6, 4, 5, 6, 0};
        for (int hour = 0; hour < does.length; hour++) {
            due("5 hour " + hour, x.costs(0, hour), 60 * (1 + does[hour]));
        }
        Cities.routine(x, 0, "2r");
        due("5 slept behind it", x.costs(0, 2), 60);
        due("5 sixty", Cities.routine(x, 0, "(s)".repeat(20)), 20);
    }

    private static void promise06Ledger() {
        StruckBeats x = Cities.of(3, 1000);
        x.feed(0, 0, 0, 0, 0);
        due("6 no n", x.ledger(0), -1);
        due("6 not so many", x.ledger(21), -1);
        due("6 no such n", x.ledger(201), -1);
        due("6 the tape stays", x.count(6), 20);
        due("6 empty then", x.ledger(20), -1000);
        due("6 empty then", x.count(6), 0);
        String[] texts = {
            "a>b1", "a>b999999@99/9999", "a>b000001@00/0000", "a>b1/5", "a>b0", "a>b000000", "a>b0000000", "a>b0x", "a>b0@",
            "a>b1@", "a>b1@x", "a>b1@1@1", "a>b1/", "a>b1/12345", "a>b1@123", "a>b1/1@1", "a>b1;", "a>b1;;", "a>b1;b>c2",
            ";a>b1", "A>b1", "q>b1", "a<b1", "a>", "a>q1", "a>a1", "d>d1", "a>d1", "d>a1", "p>a1", "a>b", "a>bx", "a>b1 ",
            "a>b1;c>c1", "a>b1;d>c1", "a>b1;c>p1", "a>b1x", "a>b1,",
        };
        int[] want = {
            1, 1, 1, 1, -3003, -3003, -2009, -3003, -3003,
            -1005, -1005, -1006, -1005, -2009, -2007, -1006, -1005, -1005, 2,
            -1000, -1000, -1000, -1001, -1002, -1002, -6002, -7000, -7002, -7000, -7000, -1003, -1003, -1004,
            -6007, -7005, -7007, -1004, -1004,
        };
        for (int i = 0; i < texts.length; i++) {
            due("6 " + texts[i], Cities.ledger(x, texts[i]), want[i]);
        }
        due("6 all stay", x.count(4), 2);
        String many = "a>b1;".repeat(24);
        due("6 24", Cities.ledger(x, many.substring(0, 119)), 24);
        due("6 a 25th", Cities.ledger(x, many + "a"), -4120);
        due("6 a 25th not told", Cities.ledger(x, many + "d>a1"), -4120);
        due("6 a 25th that cannot stand", Cities.ledger(x, many + "q"), -1120);
        due("6 beats are as they were", x.personIs(0, 0), 1000);
        x.days(1);
        due("6 the dead are told", Cities.ledger(x, "a>b1"), 1);
    }

    private static void promise07Days() {
        StruckBeats x = Cities.of(2, 100000);
        due("7 none", x.days(0), -1);
        due("7 too many", x.days(61), -1);
        due("7 nobody", x.days(1), 0);
        due("7 beats", x.personIs(0, 0), 13600);
        due("7 draws of both", x.count(7), Cities.drawn(1, 48));
        due("7 both", x.days(60), 2);
        due("7 the day", x.count(0), 61);
        due("7 age of who died", x.personIs(0, 1), 1);
        due("7 no draws for the dead", x.count(7), Cities.drawn(1, 48 + 8));

        x = Cities.of(1, 999999999);
        Cities.law(x, "p1(1=1)");
        for (int i = 0; i < 166; i++) {
            x.days(60);
        }
        due("7 days", x.count(0), 9960);
        due("7 as many as can", x.days(60), 0);
        due("7 the last day", x.count(0), 9999);
        int drawn = x.count(7);
        due("7 none goes by", x.days(1), 0);
        due("7 none goes by", x.count(7), drawn);
        due("7 nor is tried", x.tried(60, 100), 999999999 - 1440 * 9999);
        due("7 nor dies", x.dies(0, 60), -2);
        due("7 age", x.personIs(0, 1), 9999);
    }

    /** What the law says, seen through one hour or day. */
    private static void termLaw() {
        StruckBeats x = Cities.of(2, 500000);
        x.person(0, 500999, 729);
        x.person(1, 500000, 730);
        String[][] costs = {
            {"p300(1=1)", "15300"}, {"p0(1=1)", "60"}, {"p0-9(1=1)", "60"}, {"p7(1=2)", "3600"}, {"p7(1=2);p9(1=1)", "540"},
            {"p7(1=1);p9(1=1)", "420"}, {"p9/0(1=1)", "60"}, {"p9%0+99(1=1)", "60"}, {"p9(1/0=1)", "3600"},
            {"p9(!1/0=1)", "3600"}, {"p9(1=1|1/0=1)", "540"}, {"p9(1/0=1|1=1)", "3600"}, {"p9(1=2&1/0=1)", "3600"},
            {"p9(!(1=2&1/0=1))", "540"}, {"p9(1=2&1=1|2=2)", "540"}, {"p9(2=2|1=2&1=1)", "540"}, {"p9(2=2&(1=2|1=1))", "540"},
            {"p9(2=3&(1=1|1=1))", "3600"}, {"p9(!1=2)", "540"}, {"p9(!!1=2)", "3600"}, {"p9(!1=2&1=2)", "3600"},
            {"p10-3-2(1=1)", "300"}, {"p2+3*4(1=1)", "840"}, {"p[2+3]*4(1=1)", "1200"}, {"p9/2*2(1=1)", "480"},
            {"p99%10*2(1=1)", "1080"}, {"p2*3+4*5-6/4(1=1)", "1500"}, {"p7-[2-9](1=1)", "840"}, {"p[0-7]/2+9(1=1)", "360"},
            {"p[0-7]%2+9(1=1)", "480"}, {"p99999*99999+1(1=1)", "15300"}, {"p9(99999*99999=1409865409)", "-2020"},
            {"p9(99999*99999>0)", "540"}, {"p9(99999*99999/10000=14098)", "3600"},
            {"p9(99999*99999/10000/10=14098)", "540"}, {"p9(1<2)", "540"}, {"p9(2<2)", "3600"}, {"p9(3>2)", "540"},
            {"p9(2>2)", "3600"}, {"p9+a(1=1)", "600"}, {"p1+b-400(1=1)", "6060"}, {"p9+k(1=1)", "540"}, {"p9+h(1=1)", "540"},
            {"p9+n+w+m+t(1=1)", "540"}, {"x(1=1)", "3600"}, {"i9(1=1)", "3600"},
        };
        for (String[] c : costs) {
            int rules = Cities.law(x, c[0]);
            int due = Integer.parseInt(c[1]);
            due("law " + c[0], due < 0 ? rules : x.costs(0, 0), due);
        }
        Cities.law(x, "p9+k(1=1)");
        due("law k", x.costs(1, 0), 600);
        Cities.law(x, "p9+a(1=1)");
        due("law a of 729", x.costs(0, 0), 600);
        due("law a of 730", x.costs(1, 0), 660);
        Cities.law(x, "p9+h(1=1)");
        due("law h", x.costs(0, 23), 1920);
        Cities.ledger(x, "a>b1/1;a>b2;b>a3");
        Cities.law(x, "p9+m(1=1)");
        due("law m", x.costs(1, 0), 660);
        x.days(1);
        due("law m without what is paid", x.costs(1, 0), 600);
        Cities.law(x, "p9+t(1=1)");
        due("law t", x.costs(1, 0), 600);
        x.person(0, 999999999, 0);
        x.days(60);
        x.days(38);
        due("law t of day 99", x.costs(0, 0), 60 * 108);
        x.days(1);
        due("law t of day 100", x.costs(0, 0), 540);
    }

    private static void termDay() {
        StruckBeats x = Cities.of(3, 1000000);
        Cities.routine(x, 0, "2w");
        Cities.routine(x, 1, "w");
        Cities.law(x, "p10*n+1(1=1)");
        x.days(1);
        // Hour 0: two walk; hour 1: the others sleep; then all three sleep.
        due("day n of the first", x.personIs(0, 0), 1000000 - 60 * (11 + 1 + 22 * 21));
        due("day n of the third", x.personIs(2, 0), 1000000 - 60 * (1 + 11 + 22 * 21));

        x = Cities.of(3, 1000000);
        Cities.law(x, "x(k=0&h=3);p10*n+1(1=1)");
        x.days(1);
        due("day n by then", x.personIs(1, 0), 1000000 - 60 * (3 * 21 + 21 * 11));
        due("day parish", x.count(3), 1000000 - 60 * 3 * 21);

        x = Cities.of(1, 1000000);
        Cities.law(x, "p1+w(1=1)");
        int drawn = 1;
        int cost = 0;
        for (int hour = 0; hour < 24; hour++) {
            drawn = Cities.drawn(drawn, 1);
            cost += 60 * (1 + drawn % 10);
        }
        x.days(1);
        due("day w", x.personIs(0, 0), 1000000 - cost);

        x = Cities.of(1, 24 * 3600);
        due("day to 0", x.days(1), 1);
        x = Cities.of(1, 24 * 3600 + 1);
        due("day to 1", x.days(1), 0);
        due("day one is left", x.personIs(0, 0), 1);

        x = Cities.of(3, 999999999);
        Cities.law(x, "x(k<2);p1(1=1)");
        x.days(1);
        due("day the parish has its bound", x.count(3), 999999999);

        x = Cities.of(3, 10000);
        Cities.law(x, "x(k=2);p1(1=1);i9000+d+h+n+w(k=0);i9000(k=1)");
        Cities.routine(x, 0, "9(2s)5so");
        x.days(1);
        due("day gifts by numbers", x.personIs(0, 0), 10000 - 1440 + 9030);
        due("day no more than it has", x.personIs(1, 0), 10000 - 1440 + 970);
        due("day nothing is left", x.count(3), 0);

        x = Cities.of(2, 999999999);
        Cities.law(x, "x(k=1);p1(1=1);i9999(1=1)");
        x.days(1);
        due("day no more than to the bound", x.personIs(0, 0), 999999999);
        due("day the rest stays", x.count(3), 999999999 - 1440);

        x = Cities.of(2, 2000);
        Cities.law(x, "p1(1=1)");
        Cities.ledger(x, "a>b50@1/9999;b>a900@99");
        x.days(1);
        due("day paid with what one has", x.personIs(1, 0), 509);
        due("day rounded up", x.personIs(0, 0), 611);
        due("day no more than is due", x.loanIs(0, 5), 0);
        due("day grown", x.loanIs(1, 5), 1791);
        Cities.ledger(x, "a>b99999/9999");
        x.person(1, 1441, 0);
        x.person(0, 999999999, 0);
        x.days(1);
        due("day less one", x.personIs(1, 0), 1);
        x.person(1, 100000, 0);
        x.person(0, 999999999, 0);
        x.days(1);
        due("day the lender's bound", x.personIs(0, 0), 999999999);
        Cities.ledger(x, "a>b999999@99;b>a5@50");
        for (int i = 0; i < 5; i++) {
            x.days(1);
        }
        due("day due has its bound", x.loanIs(0, 5), 9999999);
        Cities.law(x, "x(k=0)");
        x.days(1);
        due("day of the dead it stays", x.loanIs(1, 5), 5 + 3 + 4 + 6 + 9 + 14);

        x = Cities.of(1, 999999999);
        x.person(0, 999999999, 99998);
        x.days(2);
        due("day the age has its bound", x.personIs(0, 1), 99999);
    }

    private static void promise08Tried() {
        StruckBeats x = Cities.of(2, 100000);
        Cities.ledger(x, "a>b100@10/20");
        Cities.law(x, "p60+w(1=1)");
        int[] wants = {0, 1, 2, 100, 101, 200};
        int[] got = new int[wants.length];
        for (int i = 0; i < wants.length; i++) {
            got[i] = x.tried(1, wants[i]);
        }
        due("8 nothing is changed", x.count(7), 1);
        due("8 nothing is changed", x.personIs(0, 0), 100000);
        due("8 nothing is changed", x.loanIs(0, 5), 100);
        int[][] bad = {{0, 0}, {61, 0}, {1, -1}, {1, 3}, {1, 99}, {1, 102}, {1, 116}, {1, 199}, {1, 201}, {1, 224}};
        for (int[] b : bad) {
            due("8 bad " + b[0] + " " + b[1], x.tried(b[0], b[1]), -1);
        }
        due("8 all die", x.tried(60, 0), 2);
        due("8 nobody is left", x.tried(60, 2), 0);
        due("8 died", got[0], x.days(1));
        due("8 parish", got[1], x.count(3));
        due("8 living", got[2], x.count(2));
        due("8 beats", got[3], x.personIs(0, 0));
        due("8 beats", got[4], x.personIs(1, 0));
        due("8 due", got[5], 90);
        x.days(60);
        due("8 beats of the dead", x.tried(1, 100), 0);
    }

    private static void promise09PersonIs() {
        StruckBeats x = Cities.of(2, 100);
        Cities.ledger(x, "a>b7;b>a5;a>b1");
        due("9 net", x.personIs(0, 4), 3);
        due("9 net", x.personIs(1, 4), -3);
        int[][] bad = {{-1, 0}, {2, 0}, {16, 0}, {0, -1}, {0, 5}};
        for (int[] b : bad) {
            due("9 bad", x.personIs(b[0], b[1]), -1000000000);
        }
        due("9 hours", x.personIs(0, 3), 0);
        due("9 living", x.personIs(0, 2), 1);
        x.days(1);
        due("9 dead", x.personIs(0, 2), 0);
        due("9 beats of the dead", x.personIs(0, 0), 0);
        due("9 net of the dead", x.personIs(0, 4), 3);
    }

    private static void promise10LoanIs() {
        StruckBeats x = Cities.of(3, 100);
        Cities.ledger(x, "c>b12@34/56;a>c7");
        int[] parts = {2, 1, 12, 34, 56, 12};
        int[] others = {0, 2, 7, 0, 0, 7};
        for (int what = 0; what < 6; what++) {
            due("10 first", x.loanIs(0, what), parts[what]);
            due("10 second", x.loanIs(1, what), others[what]);
        }
        due("10 none", x.loanIs(2, 0), -1);
        due("10 none", x.loanIs(-1, 0), -1);
        due("10 no what", x.loanIs(0, 6), -1);
        due("10 no what", x.loanIs(0, -1), -1);
    }

    private static void promise11Dies() {
        StruckBeats x = Cities.of(2, 3 * 86400);
        due("11 behind", x.dies(0, 60), 3);
        due("11 the last of them", x.dies(0, 3), 3);
        due("11 not in these", x.dies(0, 2), -2);
        due("11 nobody", x.dies(2, 5), -1);
        due("11 no days", x.dies(0, 0), -1);
        due("11 no days", x.dies(0, 61), -1);
        due("11 nothing is changed", x.count(0), 0);
        x.days(3);
        due("11 dead", x.dies(0, 1), 0);
        due("11 dead, no days", x.dies(0, 61), -1);
    }

    private static void promise12Costs() {
        StruckBeats x = Cities.of(2, 1000000);
        Cities.routine(x, 0, "2r3w");
        Cities.law(x, "x(1=1);p100+h(d=3);p10*n+5(d=2)");
        due("12 hour 1", x.costs(0, 1), 6060);
        due("12 hour 2", x.costs(0, 2), 300);
        due("12 hour 23", x.costs(0, 23), 3600);
        due("12 all", x.costs(0, 24), 60 * (201 + 15 + 19 * 60));
        due("12 no hour", x.costs(0, 25), -1);
        due("12 no hour", x.costs(0, -1), -1);
        due("12 nobody", x.costs(2, 0), -1);
        due("12 nobody", x.costs(-1, 0), -1);
        x.days(1);
        due("12 dead", x.costs(0, 0), -1);
    }

    private static void promise13And14Loans() {
        StruckBeats x = Cities.of(2, 100);
        Cities.ledger(x, "a>b100/30;a>b100@10/10;a>b100@10/11;a>b1/1;a>b3651/1;a>b3650/1");
        due("13", x.paidOff(0), 4);
        due("13 never", x.paidOff(1), -2);
        due("13 at last", x.paidOff(2), 30);
        due("13 a day", x.paidOff(3), 1);
        due("13 too late", x.paidOff(4), -2);
        due("13 just", x.paidOff(5), 3650);
        due("13 none", x.paidOff(6), -1);
        due("13 none", x.paidOff(-1), -1);
        due("14 now", x.dueAfter(0, 0), 100);
        due("14 later", x.dueAfter(0, 3), 10);
        due("14 paid", x.dueAfter(0, 4), 0);
        due("14 the same", x.dueAfter(1, 3650), 100);
        due("14 too late", x.dueAfter(4, 3650), 1);
        due("14 no days", x.dueAfter(0, -1), -1);
        due("14 no days", x.dueAfter(0, 3651), -1);
        due("14 none", x.dueAfter(6, 1), -1);
        x.days(1);
        due("13 of the dead", x.paidOff(0), 4);
        x.person(0, 100000, 0);
        x.person(1, 100000, 0);
        Cities.ledger(x, "a>b1/1");
        x.days(1);
        due("13 it is", x.paidOff(0), 0);
    }

    private static void reckonPaidOff() {
        int due = 100;
        int day = 0;
        while (due > 0) {
            due += (due * 10 + 99) / 100;
            due -= Math.min(11, due);
            day++;
        }
        StruckBeats x = Cities.of(2, 100);
        Cities.ledger(x, "a>b100@10/11");
        due("13 day by day", x.paidOff(0), day);
    }

    private static void promise15Hiccups() {
        StruckBeats x = Cities.of(4, 1000000);
        Cities.routine(x, 0, "9(2w)6w");
        Cities.routine(x, 1, "9(2r)5rw");
        Cities.routine(x, 2, "r9(2l)5l");
        Cities.routine(x, 3, "9(2f)6f");
        due("15 in the end", x.hiccups(1, 0), 7);
        due("15 the second day", x.hiccups(1, 1), 25);
        due("15 from the third on", x.hiccups(4, 0), 7);
        due("15 from the third on", x.hiccups(4, 1), 24);
        due("15 none gets them", x.hiccups(8, 1), 0);
        due("15 he has them", x.hiccups(8, 0), 8);
        due("15 none", x.hiccups(0, 0), 0);
        due("15 none", x.hiccups(0, 1), 0);
        due("15 not told", x.hiccups(16, 0), -1);
        due("15 not told", x.hiccups(-1, 0), -1);
        due("15 no what", x.hiccups(1, 2), -1);
        // Each passes them on an hour of the day earlier than he gets them: a day goes by each time.
        Cities.routine(x, 0, "5w" + "o" + "9(2w)");
        Cities.routine(x, 1, "4r" + "2o" + "9(2r)");
        Cities.routine(x, 2, "3l" + "2o" + "9(2l)l");
        Cities.routine(x, 3, "3f" + "o" + "9(2f)2f");
        due("15 day by day", x.hiccups(1, 1), 6 + 23 + 23);
        due("15 day by day", x.hiccups(1, 0), 15);
        due("15 day by day, the last's sleep is his own", x.hiccups(8, 0), 15);
        Cities.routine(x, 0, "9(2w)6w");
        Cities.routine(x, 1, "9(2r)5rw");
        Cities.routine(x, 2, "r9(2l)5l");
        Cities.law(x, "x(k=1)");
        x.days(1);
        due("15 the dead pass nothing on", x.hiccups(3, 0), 1);
        due("15 nor get them", x.hiccups(1, 1), 0);
    }

    private static void promise16To18() {
        StruckBeats x = Cities.of(3, 86400 * 3 - 1);
        x.person(1, 86400 * 3, 0);
        x.person(2, 86400 * 4 - 1, 0);
        due("16 less one", x.left(0), 2);
        due("16 just", x.left(1), 3);
        due("16 nobody", x.left(3), -1);
        due("16 nobody", x.left(-1), -1);
        due("17 the lowest of like ones", x.longest(), 1);
        due("18 the first of like ones", x.stillest(0), 0);
        due("18 all together", x.stillest(1), 3 * 3600);
        due("18 no what", x.stillest(2), -1);
        due("18 no what", x.stillest(-1), -1);
        Cities.law(x, "p9(h=7|h=9);p8(h=9)");
        due("18 which", x.stillest(0), 7);
        due("18 how much", x.stillest(1), 3 * 540);
        Cities.law(x, "x(k=1)");
        x.days(1);
        due("16 dead", x.left(1), -1);
        due("17 living", x.longest(), 2);
        due("18 living", x.stillest(1), 2 * 3600);
        Cities.law(x, "x(1=1)");
        x.days(1);
        due("17 nobody", x.longest(), -2);
        due("18 nobody", x.stillest(0), 0);
        due("18 nobody", x.stillest(1), 0);
    }

    private static void promise19Alike() {
        StruckBeats x = Cities.of(3, 100);
        Cities.routine(x, 0, "5s3w");
        Cities.routine(x, 1, "2s3w");
        due("19 hours", x.alike(0, 1, 0), 24 - 6);
        due("19 later", x.alike(0, 1, 1), 3);
        due("19 then", x.alike(0, 1, 2), 24);
        due("19 the other way", x.alike(1, 0, 1), 21);
        Cities.routine(x, 2, "4s3w");
        due("19 an hour later", x.alike(0, 2, 1), 1);
        due("19 an hour earlier", x.alike(2, 0, 1), 23);
        Cities.routine(x, 2, "s");
        due("19 the least of like ones", x.alike(0, 2, 1), 0);
        due("19 the least of like ones", x.alike(0, 2, 2), 21);
        due("19 the same", x.alike(1, 1, 0), -1);
        due("19 nobody", x.alike(0, 3, 0), -1);
        due("19 nobody", x.alike(-1, 0, 0), -1);
        due("19 no what", x.alike(0, 1, 3), -1);
        x.days(1);
        due("19 the dead", x.alike(0, 1, 0), 18);
    }

    private static void promise20Rings() {
        StruckBeats x = Cities.of(16, 1000000);
        Cities.ledger(x, "a>b1;b>c1;c>a1;d>e1;e>f1;f>d1");
        due("20 fewest", x.rings(0), 3);
        due("20 least bits", x.rings(1), 7);
        Cities.ledger(x, "a>p1;p>a1;b>c1;c>b1");
        due("20 least bits", x.rings(1), 6);
        Cities.ledger(x, "a>b1;b>c1;c>d1;d>a1;b>a1/1;a>c1");
        due("20 two", x.rings(0), 2);
        x.days(1);
        due("20 three when one is paid", x.rings(0), 3);
        due("20 who", x.rings(1), 13);
        Cities.ledger(x, "a>b1;b>c1;a>c1;a>b1");
        due("20 none", x.rings(0), -2);
        due("20 none", x.rings(1), -2);
        due("20 no what", x.rings(2), -1);
        due("20 no what", x.rings(-1), -1);
        StringBuilder all = new StringBuilder("p>a1");
        for (int p = 0; p < 15; p++) {
            all.append(';').append((char) ('a' + p)).append('>').append((char) ('b' + p)).append('1');
        }
        Cities.ledger(x, all.toString());
        due("20 all", x.rings(0), 16);
        due("20 all", x.rings(1), 65535);
    }

    private static int settled(int what, int... nets) {
        StruckBeats x = new StruckBeats();
        int[] bytes = new int[2 * nets.length];
        for (int i = 0; i < nets.length; i++) {
            bytes[2 * i] = nets[i] + 32768 >> 8;
            bytes[2 * i + 1] = nets[i] + 32768 & 255;
        }
        Cities.feed(x, bytes);
        int answer = x.settled(nets.length, what);
        due("21 empty then", x.count(6), 0);
        return answer;
    }

    private static void promise21Settled() {
        due("21 none", settled(0, 0, 0), 0);
        due("21 none", settled(1, 0, 0), 0);
        due("21 one", settled(0, 5, -5), 1);
        due("21 the greatest", settled(1, -32768, 32767, 1), 32768);
        due("21 the greatest", settled(0, -32768, 32767, 1), 2);
        due("21 two groups of three", settled(0, 1, 2, -3, 4, 5, -9), 4);
        due("21 four pairs", settled(0, 1, 2, 3, 4, -1, -2, -3, -4), 4);
        due("21 four pairs", settled(1, 1, 2, 3, 4, -1, -2, -3, -4), 10);
        due("21 one of eight", settled(0, 7, -1, -1, -1, -1, -1, -1, -1), 7);
        due("21 not together", settled(0, 1, -2), -2);
        due("21 not together", settled(1, 1, -2), -2);
        StruckBeats x = new StruckBeats();
        x.feed(0, 0, 0, 0, 0);
        due("21 one", x.settled(1, 0), -1);
        due("21 nine", x.settled(9, 0), -1);
        due("21 no what", x.settled(2, 2), -1);
        due("21 no what", x.settled(2, -1), -1);
        due("21 the tape stays", x.count(6), 20);
        due("21 not so many", new StruckBeats().settled(2, 0), -1);
    }

    private static int joy(int much, int what, int... bytes) {
        StruckBeats x = new StruckBeats();
        Cities.feed(x, bytes);
        int answer = x.joy(bytes.length / 2, much, what);
        due("22 empty then", x.count(6), 0);
        return answer;
    }

    private static void promise22Joy() {
        due("22 one thing", joy(240, 100, 10, 7), 168);
        due("22 one thing", joy(240, 0, 10, 7), 24);
        due("22 too dear", joy(239, 100, 10, 7), -2);
        due("22 too dear", joy(239, 0, 10, 7), -2);
        due("22 two", joy(100, 100, 10, 7, 0, 1), 84);
        due("22 two", joy(100, 1, 10, 7, 0, 1), 14);
        due("22 like ones", joy(6120, 0, 1, 7, 2, 7, 3, 7, 4, 7, 5, 7), 24);
        due("22 like ones", joy(30, 1, 5, 7, 1, 7, 0, 7), 0);
        due("22 like ones", joy(30, 2, 5, 7, 1, 7, 0, 7), 18);
        due("22 the second of like ones", joy(29, 1, 5, 7, 1, 7, 0, 7), 4);
        due("22 the first of like ones", joy(30, 0, 5, 7, 1, 7, 0, 7), 6);
        due("22 all", joy(6120, 100, 255, 255, 255, 255), 6120);
        due("22 no joy", joy(0, 100, 0, 0), 0);
        StruckBeats x = new StruckBeats();
        x.feed(0, 0, 0, 0, 0);
        int[][] bad = {{0, 0, 100}, {6, 0, 100}, {1, -1, 100}, {1, 6121, 100}, {1, 0, 1}, {1, 0, -1}, {5, 0, 5}, {1, 0, 99}};
        for (int[] b : bad) {
            due("22 bad", x.joy(b[0], b[1], b[2]), -1);
        }
        due("22 the tape stays", x.count(6), 20);
        due("22 not so many", new StruckBeats().joy(1, 0, 100), -1);
    }

    private static int run(int what, int... bytes) {
        StruckBeats x = new StruckBeats();
        Cities.feed(x, bytes);
        return x.run(bytes.length, what);
    }

    private static void promise23Run() {
        due("23 all", run(0, 0, 0, 1, 2, 4), 5);
        due("23 rounds", run(1, 0, 0, 1, 2, 4), 3);
        due("23 it stops", run(0, 0, 2, 2), 1);
        due("23 it stops", run(1, 0, 2, 2), 1);
        due("23 others alone", run(0, 16, 16), 0);
        due("23 of one above 16", run(0, 0, 17), -2);
        due("23 of one above 16", run(1, 0, 255), -2);
        due("23 sixteen rounds", run(1, 15, 14, 13, 12, 11, 10, 9, 8, 7, 6, 5, 4, 3, 2, 1, 0), 16);
        StruckBeats x = new StruckBeats();
        x.feed(0, 0, 0, 0, 0);
        due("23 one", x.run(1, 0), -1);
        due("23 seventeen", x.run(17, 0), -1);
        due("23 no what", x.run(2, 2), -1);
        due("23 the tape stays", x.count(6), 20);
        due("23 empty then", x.run(2, 0) * 100 + x.count(6), 200);
        due("23 not so many", x.run(2, 0), -1);
    }

    private static int table(int what, int... bytes) {
        StruckBeats x = new StruckBeats();
        Cities.feed(x, bytes);
        return x.table(bytes.length, what);
    }

    private static void promise24Table() {
        due("24 above", table(100, 12, 8, 2), 5);
        due("24 below", table(200, 12, 8, 2), 6);
        due("24 at the last age", table(102, 12, 8, 2), 0);
        due("24 at the last age", table(202, 12, 8, 2), 1);
        due("24 most deaths", table(300, 12, 8, 2), 1);
        due("24 at the last age all die", table(300, 12, 8, 5), 2);
        due("24 the lowest of like ones", table(300, 12, 8, 4), 0);
        due("24 nobody lives", table(102, 12, 8, 0), -2);
        due("24 nobody lives", table(202, 12, 8, 0), -2);
        due("24 none at first", table(300, 0, 0), -3);
        due("24 more than ahead", table(100, 5, 6), -3);
        due("24 none first", table(101, 0, 0), -3);
        int[] thirty = new int[30];
        java.util.Arrays.fill(thirty, 255);
        due("24 thirty", table(100, thirty), 29);
        due("24 thirty", table(129, thirty), 0);
        StruckBeats x = new StruckBeats();
        x.feed(-1, -1, -1, -1, -1);
        x.feed(-1, -1, -1, -1, -1);
        int[][] bad = {{1, 100}, {31, 100}, {3, 103}, {3, 203}, {3, 99}, {3, 199}, {3, 299}, {3, 301}, {3, -1}};
        for (int[] b : bad) {
            due("24 bad", x.table(b[0], b[1]), -1);
        }
        due("24 the tape stays", x.count(6), 40);
        due("24 even", x.table(30, 200), 1);
        due("24 empty then", x.count(6), 0);
        due("24 not so many", x.table(2, 300), -1);
    }

    private static int atOnce(int upTo, int what, int... bytes) {
        StruckBeats x = new StruckBeats();
        Cities.feed(x, bytes);
        return x.atOnce(upTo, what);
    }

    private static void promise25AtOnce() {
        due("25 first", atOnce(0, 0, 1, 3, 2, 5), 7);
        due("25 how many", atOnce(22, 1, 1, 3, 2, 5), 2);
        due("25 up to the first", atOnce(7, 1, 1, 3, 2, 5), 1);
        due("25 up to it", atOnce(21, 1, 1, 3, 2, 5), 1);
        due("25 before it", atOnce(6, 1, 1, 3, 2, 5), 0);
        due("25 none", atOnce(9, 0, 0, 2, 1, 2), -2);
        due("25 none", atOnce(9, 1, 0, 2, 1, 2), 0);
        due("25 behind the other's first", atOnce(9, 0, 0, 2, 200, 2), 200);
        due("25 behind one's first", atOnce(9, 0, 200, 2, 0, 2), 200);
        due("25 far", atOnce(0, 0, 0, 255, 253, 254), 253 * 255);
        due("25 each tick", atOnce(65535, 1, 0, 1, 0, 1), 65536);
        due("25 so many of 0", atOnce(0, 0, 1, 0, 1, 1), -3);
        due("25 so many of 0", atOnce(0, 1, 1, 1, 1, 0), -3);
        StruckBeats x = new StruckBeats();
        due("25 not so many", x.atOnce(0, 0), -1);
        x.feed(0x01010101, 0, 0, 0, 0);
        due("25 no tick", x.atOnce(-1, 0), -1);
        due("25 no tick", x.atOnce(65536, 0), -1);
        due("25 no what", x.atOnce(0, 2), -1);
        due("25 the tape stays", x.count(6), 20);
        due("25 now", x.atOnce(0, 0), 1);
        due("25 empty then", x.count(6), 0);
    }

    private static int pulse(int what, int... ticks) {
        StruckBeats x = new StruckBeats();
        int[] bytes = new int[2 * ticks.length];
        for (int i = 0; i < ticks.length; i++) {
            bytes[2 * i] = ticks[i] >> 8;
            bytes[2 * i + 1] = ticks[i] & 255;
        }
        Cities.feed(x, bytes);
        return x.pulse(ticks.length, what);
    }

    private static void promise26Pulse() {
        due("26 between", pulse(0, 10, 16, 25), 3);
        due("26 not heard", pulse(1, 10, 16, 25), 3);
        due("26 all heard", pulse(1, 1, 1001, 2001), 0);
        due("26 far", pulse(0, 0, 65535), 65535);
        due("26 not rising", pulse(0, 5, 5), -3);
        due("26 not rising", pulse(1, 5, 6, 4), -3);
        StruckBeats x = new StruckBeats();
        x.feed(1, 2, 3, 4, 5);
        due("26 one", x.pulse(1, 0), -1);
        due("26 twenty one", x.pulse(21, 0), -1);
        due("26 not so many", x.pulse(11, 0), -1);
        due("26 no what", x.pulse(2, 2), -1);
        due("26 the tape stays", x.count(6), 20);
        due("26 empty then", x.pulse(2, 0) * 100 + x.count(6), 100);
    }

    private static int stairs(int what, int... bytes) {
        StruckBeats x = new StruckBeats();
        Cities.feed(x, bytes);
        return x.stairs(bytes.length, what);
    }

    private static void promise27Stairs() {
        due("27 up", stairs(0, 0, 10), 32);
        due("27 down", stairs(0, 10, 0), 12);
        due("27 over", stairs(0, 5, 9, 5), 2);
        due("27 ways", stairs(1, 5, 9, 5), 1);
        due("27 by all", stairs(0, 0, 0, 0, 0), 4);
        due("27 the fewest of those", stairs(1, 0, 0, 0, 0), 2);
        due("27 cheaper with more ways", stairs(0, 0, 9, 0, 0, 9, 0), 6);
        due("27 cheaper with more ways", stairs(1, 0, 9, 0, 0, 9, 0), 3);
        due("27 high", stairs(0, 0, 255, 0, 255), 2 + 2 + 765);
        StruckBeats x = new StruckBeats();
        x.feed(0, 0, 0, 0, 0);
        due("27 one", x.stairs(1, 0), -1);
        due("27 twenty one", x.stairs(21, 0), -1);
        due("27 no what", x.stairs(2, 2), -1);
        due("27 the tape stays", x.count(6), 20);
        due("27 twenty", x.stairs(20, 1), 10);
        due("27 empty then", x.count(6), 0);
        due("27 not so many", x.stairs(2, 0), -1);
    }

    private static int bells(int number, int... bytes) {
        StruckBeats x = new StruckBeats();
        Cities.feed(x, bytes);
        return x.bells(bytes.length, number);
    }

    private static void promise28Bells() {
        due("28 not the greatest first", bells(6, 4, 3, 1), 2);
        due("28 ones", bells(9999, 1), 9999);
        due("28 the greatest", bells(9999, 255, 1), 39 + 54);
        due("28 can't", bells(7, 2, 4), -2);
        due("28 can't", bells(1, 2), -2);
        due("28 five", bells(9900, 255, 254, 253, 252, 251), 39);
        due("28 a bell of 0", bells(7, 2, 0), -3);
        due("28 two alike", bells(7, 2, 3, 2), -3);
        StruckBeats x = new StruckBeats();
        x.feed(0x01020304, 0, 0, 0, 0);
        int[][] bad = {{0, 1}, {6, 1}, {1, 0}, {1, 10000}, {-1, 1}};
        for (int[] b : bad) {
            due("28 bad", x.bells(b[0], b[1]), -1);
        }
        due("28 the tape stays", x.count(6), 20);
        due("28", x.bells(4, 9), 3);
        due("28 empty then", x.count(6), 0);
        due("28 not so many", x.bells(1, 1), -1);
    }

    private static void promise29Seed() {
        StruckBeats x = Cities.of(1, 1000000);
        due("29", x.seed(65535), true);
        due("29 X", x.count(7), 65535);
        due("29 no such number", x.seed(65536), false);
        due("29 no such number", x.seed(-1), false);
        due("29 X stays", x.count(7), 65535);
        x.days(1);
        due("29 drawn from it", x.count(7), Cities.drawn(65535, 24));
        due("29 0", x.seed(0), true);
        due("29 0", x.count(7), 0);
    }

    private static void promise30And31Kept() {
        StruckBeats x = Cities.of(2, 200000);
        Cities.ledger(x, "a>b100@5/10");
        Cities.law(x, "x(k=1&t=2)");
        x.days(1);
        due("30 the day", x.keep(), 1);
        int drawn = x.count(7);
        x.days(2);
        x.person(5, 9, 9);
        Cities.routine(x, 0, "7r");
        Cities.law(x, "p9(1=1)");
        x.feed(0, 0, 0, 0, 0);
        due("31 the parish has some", x.count(3) > 0, true);
        due("31", x.undo(), true);
        due("31 the day", x.count(0), 1);
        due("31 told", x.count(1), 3);
        due("31 living", x.count(2), 3);
        due("31 parish", x.count(3), 0);
        due("31 X", x.count(7), drawn);
        due("31 beats", x.personIs(1, 0), 200000 - 86400 - 10);
        due("31 age", x.personIs(0, 1), 1);
        due("31 due", x.loanIs(0, 5), 95);
        due("31 the routine is not", x.personIs(0, 3), 7);
        due("31 the law is not", x.costs(0, 0), 540);
        due("31 the tape is not", x.count(6), 20);
        x.days(1);
        due("31 again", x.undo(), true);
        due("31 again", x.count(0), 1);
        x.days(1);
        due("30 in place", x.keep(), 2);
        x.undo();
        due("31 the last", x.count(0), 2);
    }

    private static void promise32Check() {
        StruckBeats x = Cities.of(3, 100000);
        Cities.law(x, "x(k=1)");
        x.days(1);
        Cities.feed(x, 1, 0, 1, 255, 255, 255, 255, 255, 255, 255, 255, 255, 255, 255, 255, 255);
        due("32 all", x.check(16), -1);
        due("32 empty then", x.count(6), 0);
        Cities.feed(x, 1, 1, 0);
        due("32 the first", x.check(3), 1);
        Cities.feed(x, 1, 0, 2);
        due("32 the first", x.check(3), 2);
        Cities.feed(x, 1, 0, 2);
        due("32 so many alone", x.check(2), -1);
        Cities.feed(x, 1, 0, 1, 0);
        due("32 not told", x.check(4), 3);
        due("32 not so many", x.check(1), -2);
        due("32 none", x.check(0), -1);
        x.feed(0, 0, 0, 0, 0);
        due("32 too many", x.check(17), -2);
        due("32 too few", x.check(-1), -2);
        due("32 the tape stays", x.count(6), 20);
        due("32 none", x.check(0), -1);
        due("32 empty then", x.count(6), 0);
    }

    private static void promise33Count() {
        StruckBeats x = new StruckBeats();
        x.person(2, 100000, 0);
        x.person(4, 300000, 0);
        x.person(7, 300000, 0);
        due("33 told", x.count(1), 148);
        due("33 living", x.count(2), 148);
        due("33 the lowest of like ones", x.count(8), 4);
        Cities.ledger(x, "c>e1;e>c1");
        Cities.law(x, "x(k=4);p1(1=1)");
        x.feed(0, 0, 0, 0, 0);
        due("33 loans", x.count(4), 2);
        due("33 rules", x.count(5), 2);
        due("33 bytes", x.count(6), 20);
        x.days(2);
        due("33 the day", x.count(0), 2);
        due("33 living", x.count(2), 132);
        due("33 told", x.count(1), 148);
        due("33 parish", x.count(3), 300000);
        due("33 X", x.count(7), Cities.drawn(1, 3 + 47 * 2));
        due("33 most", x.count(8), 7);
        x.check(0);
        Cities.law(x, "x(1=1)");
        x.days(1);
        due("33 the dead have 0", x.count(8), 2);
        due("33 none", x.count(9), -1);
        due("33 none", x.count(-1), -1);
    }

    public static void main(String[] args) {
        promise01New();
        promise02Person();
        promise03Feed();
        promise04Law();
        promise05Routine();
        promise06Ledger();
        promise07Days();
        termLaw();
        termDay();
        promise08Tried();
        promise09PersonIs();
        promise10LoanIs();
        promise11Dies();
        promise12Costs();
        promise13And14Loans();
        reckonPaidOff();
        promise15Hiccups();
        promise16To18();
        promise19Alike();
        promise20Rings();
        promise21Settled();
        promise22Joy();
        promise23Run();
        promise24Table();
        promise25AtOnce();
        promise26Pulse();
        promise27Stairs();
        promise28Bells();
        promise29Seed();
        promise30And31Kept();
        promise32Check();
        promise33Count();
        System.out.println(asked + " asked, " + wrong + " wrong");
        if (wrong != 0) {
            System.exit(1);
        }
    }
}
