/** The bounds of the three languages: what a text may hold, and each of its faults. */
final class BoundsOfTexts {
    private static final String T = "Terms";

    private BoundsOfTexts() {
    }

    static void all() {
        routineIsAtMostSixtyBytes();
        routineHours();
        routineRounds();
        routineHasTwentyFourHours();
        routineWhatCannotStand();
        routineThirdBracket();
        routineTooManyHours();
        ledgerIsAtMostTwoHundredBytes();
        ledgerLoansBetweenSemicolons();
        ledgerParts();
        ledgerFaultsOfDigits();
        ledgerFaultsOfPeople();
        ledgerInPlaceOfAll();
        lawIsAtMostTwoHundredFortyBytes();
        lawRules();
        lawShapes();
        lawFaultsOfSigns();
        lawSeventhThatIsOpen();
    }

    private static void due(long got, long want) {
        Bounds.due(got, want);
    }

    /** The answer to a routine of the first one in a new city. */
    private static int routine(String text) {
        return Cities.routine(Cities.of(1, 1000), 0, text);
    }

    /** The answer to a ledger where a, b and p are told. */
    private static int ledger(String text) {
        StruckBeats x = Cities.of(2, 1000);
        x.person(15, 1000, 0);
        return Cities.ledger(x, text);
    }

    private static int law(String text) {
        return Cities.law(new StruckBeats(), text);
    }

    private static String sign(int b) {
        return String.valueOf((char) b);
    }

    private static void routineIsAtMostSixtyBytes() {
        Bounds.says(T, "A ROUTINE: a TEXT of at most 60 bytes, no blanks");
        due(routine("(s)".repeat(20)), 20);
        due(routine("(s)".repeat(19) + "(s)".substring(0, 2) + "x"), -1059);
        StruckBeats x = Cities.of(1, 1000);
        due(Cities.routine(x, 0, "(s)".repeat(20) + "s"), -1);
        due(x.count(6), 80);
        due(x.routine(0, 60), 20);
        due(routine(" s"), -1000);
        due(routine("s "), -1001);
        due(routine("2 s"), -1001);
        due(routine("s s"), -1001);
        due(routine("( s)"), -1001);
        due(routine("(s )"), -1002);
        due(routine("s\n"), -1001);
    }

    private static void routineHours() {
        Bounds.says(T, "HOURS one behind the other: s (sleeps), c (is calm), w (walks), r (runs), l (loves), f (fears), "
            + "o (is at the opera), ahead of each perhaps a digit 2 to 9 (so many hours of it)");
        for (int b = 0; b < 256; b++) {
            boolean isHour = "scwrlfo".indexOf(b) >= 0;
            boolean isAhead = "23456789(".indexOf(b) >= 0;
            due(routine(sign(b)), isHour ? 1 : isAhead ? -1001 : -1000);
        }
        for (int hour = 0; hour < 7; hour++) {
            String does = "scwrlfo".substring(hour, hour + 1);
            due(routine("1" + does), -1000);
            due(routine("2" + does), 2);
            due(routine("9" + does), 9);
            due(routine("10" + does), -1000);
            due(routine("2" + "2" + does), -1001);
            StruckBeats x = Cities.of(1, 1000);
            Cities.law(x, "p1+d(1=1)");
            Cities.routine(x, 0, "2" + does);
            due(x.costs(0, 1), 60 * (1 + hour));
            due(x.costs(0, 2), 60);
        }
    }

    private static void routineRounds() {
        Bounds.says(T, "or (HOURS), ahead of it perhaps a digit 2 to 9 (so many times)");
        due(routine("(s)"), 1);
        due(routine("0(s)"), -1000);
        due(routine("1(s)"), -1000);
        due(routine("2(s)"), 2);
        due(routine("9(s)"), 9);
        due(routine("22(s)"), -1001);
        due(routine("()"), -1001);
        due(routine("2()"), -1002);
        due(routine("(2)"), -1002);
        StruckBeats x = Cities.of(1, 1000);
        Cities.law(x, "p1+d(1=1)");
        due(Cities.routine(x, 0, "c2(2(wr)o)s"), 12);
        String does = "123236232360";
        for (int hour = 0; hour < 12; hour++) {
            due(x.costs(0, hour), 60 * (1 + does.charAt(hour) - '0'));
        }
    }

    private static void routineHasTwentyFourHours() {
        Bounds.says(T, "24 at most in all; hours behind the last are slept.");
        due(routine("s".repeat(24)), 24);
        due(routine("s".repeat(25)), -6024);
        due(routine("9s9s6s"), 24);
        due(routine("9s9s7s"), -6004);
        StruckBeats x = Cities.of(1, 1000);
        Cities.law(x, "p1+d(1=1)");
        Cities.routine(x, 0, "9(2w)6w");
        due(x.costs(0, 23), 180);
        Cities.routine(x, 0, "9(2w)5w");
        due(x.costs(0, 22), 180);
        due(x.costs(0, 23), 60);
        Cities.routine(x, 0, "w");
        due(x.costs(0, 0), 180);
        due(x.costs(0, 1), 60);
        due(x.costs(0, 24), 60 * 26);
    }

    private static void routineWhatCannotStand() {
        Bounds.says(T, "FAULTS, the first from the left: 1 what can't stand there (the end, too); 5 a third");
        due(routine("2"), -1001);
        due(routine("("), -1001);
        due(routine("2("), -1002);
        due(routine("(s"), -1002);
        due(routine("(2"), -1002);
        due(routine("((s)"), -1004);
        due(routine(")"), -1000);
        due(routine("s)"), -1001);
        due(routine("(s))"), -1003);
        due(routine("x((("), -1000);
        due(routine("(((x"), -5002);
        due(routine("9s9s9sx"), -6004);
        due(routine("9s9sx9s"), -1004);
        due(routine("((x((("), -1002);
    }

    private static void routineThirdBracket() {
        Bounds.says(T, "5 a third ( that is open in another one, at it");
        due(routine("((s))"), 1);
        due(routine("(((s)))"), -5002);
        due(routine("((("), -5002);
        due(routine("2(3(4(s)))"), -5005);
        due(routine("(s(s(s)))"), -5004);
        due(routine("((s)(s))((s)(s))"), 4);
        due(routine("((s)(s("), -5006);
        due(routine("(s)((s((s))))"), -5006);
    }

    private static void routineTooManyHours() {
        Bounds.says(T, "6 more than 24, at the first byte of what (or its digit) by which they are (asked when it ends; of an inner one first)");
        due(routine("3(8s)"), 24);
        due(routine("3(9s)"), -6000);
        due(routine("s3(8s)"), -6001);
        due(routine("3(8s)s"), -6005);
        due(routine("9s9s6ss"), -6006);
        due(routine("9s9s9"), -1005);
        due(routine("9s9s9("), -1006);
        due(routine("9s9s9x"), -1005);
        due(routine("3(9s"), -1004);
        due(routine("3(9sx)"), -1004);
        due(routine("(9s9s9s)"), -6005);
        due(routine("2(9s9s9s)"), -6006);
        due(routine("2(2(9s)9s)"), -6007);
        due(routine("2(2(9s))"), -6000);
        due(routine("2(3(9s))"), -6002);
        due(routine("9(9(9s))"), -6002);
        due(routine("2(2(6s))s"), -6008);
    }

    /** A ledger of just 200 bytes, of 14 loans, the last of 12. */
    private static String fullLedger() {
        return "a>b999999@99/9999;".repeat(10) + "a>b1;a>b1;a>b1;a>b12";
    }

    private static void ledgerIsAtMostTwoHundredBytes() {
        Bounds.says(T, "A LEDGER: a TEXT of at most 200 bytes, no blanks");
        StruckBeats x = Cities.of(2, 1000);
        due(fullLedger().length(), 200);
        due(Cities.ledger(x, fullLedger()), 14);
        due(x.loanIs(13, 2), 12);
        due(ledger(fullLedger().substring(0, 199) + "x"), -1199);
        due(Cities.ledger(x, fullLedger() + "3"), -1);
        due(x.count(6), 220);
        due(x.ledger(200), 14);
        String[] blanks = {" a>b1", "a >b1", "a> b1", "a>b 1", "a>b1 ", "a>b1; a>b1", "a>b1@ 1", "a>b1/ 1"};
        int[] places = {0, 1, 2, 3, 4, 5, 5, 5};
        for (int i = 0; i < blanks.length; i++) {
            due(ledger(blanks[i]), -1000 - places[i]);
        }
    }

    private static void ledgerLoansBetweenSemicolons() {
        Bounds.says(T, "LOANS with a ; (59) between two (24 at most)");
        due(ledger("a>b1;b>a1"), 2);
        due(ledger("a>b1:b>a1"), -1004);
        due(ledger("a>b1<b>a1"), -1004);
        due(ledger("a>b1b>a1"), -1004);
        due(ledger(";a>b1"), -1000);
        due(ledger("a>b1;"), -1005);
        due(ledger("a>b1;;b>a1"), -1005);
        due(ledger("a>b1@2;b>a1"), 2);
        due(ledger("a>b1/2;b>a1"), 2);
        due(ledger(Cities.loans(24)), 24);
        due(ledger(Cities.loans(25)), -4120);
    }

    private static void ledgerParts() {
        Bounds.says(T, "a letter, > (62), a letter, a number of one to six digits (so much: the one lends it to the other)");
        for (int b = 0; b < 256; b++) {
            boolean isTold = b == 'a' || b == 'p';
            boolean isLetter = b >= 'a' && b <= 'p';
            due(ledger(sign(b) + ">b1"), isTold ? 1 : b == 'b' ? -6002 : isLetter ? -7000 : -1000);
            due(ledger("b>" + sign(b) + "1"), isTold ? 1 : b == 'b' ? -6002 : isLetter ? -7002 : -1002);
            due(ledger("a" + sign(b) + "b1"), b == '>' ? 1 : -1001);
            due(ledger("a>b" + sign(b)), b == '0' ? -3003 : b > '0' && b <= '9' ? 1 : -1003);
        }
        due(ledger("a>b"), -1003);
        due(ledger("a>b100000"), 1);
        due(ledger("a>b1000000"), -2009);
        StruckBeats x = Cities.of(16, 1000);
        Cities.ledger(x, "p>a999999");
        due(x.loanIs(0, 0), 15);
        due(x.loanIs(0, 1), 0);
        due(x.loanIs(0, 2), 999999);

        Bounds.says(T, "perhaps @ (64) and a number of one or two digits (the RATE, else 0)");
        for (int b = 0; b < 256; b++) {
            boolean isDigit = b >= '0' && b <= '9';
            due(ledger("a>b1" + sign(b) + "7"), b == '@' || b == '/' || isDigit ? 1 : b == ';' ? -1005 : -1004);
            due(ledger("a>b1@" + sign(b)), isDigit ? 1 : -1005);
        }
        due(ledger("a>b1@"), -1005);
        due(ledger("a>b1@99"), 1);
        due(ledger("a>b1@100"), -2007);
        due(ledger("a>b1@1@1"), -1006);
        Cities.ledger(x, "a>b5@0;a>b5@99;a>b5@09;a>b5/3;a>b5@7/3");
        int[] rates = {0, 99, 9, 0, 7};
        for (int l = 0; l < 5; l++) {
            due(x.loanIs(l, 3), rates[l]);
        }

        Bounds.says(T, "perhaps / (47) and a number of one to four digits (paid a day, else 0)");
        for (int b = 0; b < 256; b++) {
            boolean isDigit = b >= '0' && b <= '9';
            due(ledger("a>b1@12" + sign(b) + "7"), b == '/' ? 1 : isDigit ? -2007 : b == ';' ? -1008 : -1007);
            due(ledger("a>b1/" + sign(b)), isDigit ? 1 : -1005);
        }
        due(ledger("a>b1/"), -1005);
        due(ledger("a>b1/9999"), 1);
        due(ledger("a>b1/10000"), -2009);
        due(ledger("a>b1/1/1"), -1006);
        due(ledger("a>b1/1@1"), -1006);
        Cities.ledger(x, "a>b5/0;a>b5/9999;a>b5/0009;a>b5@3;a>b5@3/7");
        int[] daily = {0, 9999, 9, 0, 7};
        for (int l = 0; l < 5; l++) {
            due(x.loanIs(l, 4), daily[l]);
        }
    }

    private static void ledgerFaultsOfDigits() {
        Bounds.says(T, "FAULTS: 1; 2 a digit too many, at it");
        due(ledger("a>b1x1234567"), -1004);
        due(ledger("a>b1234567x"), -2009);
        due(ledger("a>b123456"), 1);
        due(ledger("a>b1234567"), -2009);
        due(ledger("a>b12345678"), -2009);
        due(ledger("a>b1@12"), 1);
        due(ledger("a>b1@123"), -2007);
        due(ledger("a>b1/1234"), 1);
        due(ledger("a>b1/12345"), -2009);
        due(ledger("a>b1;a>b1@000"), -2012);

        Bounds.says(T, "3 a LOAN of 0, at the number's first digit (asked when it ends)");
        due(ledger("a>b0"), -3003);
        due(ledger("a>b1"), 1);
        due(ledger("a>b000000"), -3003);
        due(ledger("a>b000001"), 1);
        due(ledger("a>b0000000"), -2009);
        due(ledger("a>b0x"), -3003);
        due(ledger("a>b00@123"), -3003);
        due(ledger("a>b1;a>b0;"), -3008);
    }

    private static void ledgerFaultsOfPeople() {
        Bounds.says(T, "4 a 25th LOAN, at its first letter (if that can stand there)");
        String ahead = Cities.loans(24) + ";";
        due(ledger(Cities.loans(23) + ";p>a1"), 24);
        due(ledger(ahead + "a"), -4120);
        due(ledger(ahead + "p>a1"), -4120);
        due(ledger(ahead + "a>a0"), -4120);
        due(ledger(ahead + "q"), -1120);
        due(ledger(ahead + "`"), -1120);
        due(ledger(ahead + ";"), -1120);
        due(ledger(ahead), -1120);

        Bounds.says(T, "6 one and himself, at the second letter");
        due(ledger("a>a1"), -6002);
        due(ledger("p>p1"), -6002);
        due(ledger("a>a"), -6002);
        due(ledger("a>b1;b>b1"), -6007);
        due(ledger("a>b1;b>a1"), 2);

        Bounds.says(T, "7 one who is not told, at his letter (behind 4, 6)");
        due(ledger("c>a1"), -7000);
        due(ledger("o>a1"), -7000);
        due(ledger("a>c1"), -7002);
        due(ledger("a>o"), -7002);
        due(ledger("c"), -7000);
        due(ledger("a>b1;a>c1"), -7007);
        due(ledger("a>b1;c>a1"), -7005);
        due(ledger(ahead + "c>a1"), -4120);
        StruckBeats x = Cities.of(2, 1);
        x.days(1);
        due(x.count(2), 0);
        due(Cities.ledger(x, "a>b1"), 1);
    }

    private static void ledgerInPlaceOfAll() {
        Bounds.says(T, "In place of all LOANS ahead; nothing is handed over by it; DUE is so much then.");
        StruckBeats x = Cities.of(2, 100000);
        due(Cities.ledger(x, "b>a70@50/9;" + Cities.loans(23)), 24);
        x.days(1);
        due(x.loanIs(0, 5), 96);
        due(Cities.ledger(x, "b>a70@50/9"), 1);
        due(x.count(4), 1);
        due(x.loanIs(0, 5), 70);
        due(x.loanIs(1, 5), -1);
        due(x.personIs(0, 0), 100000 - 86400 - 9);
        due(x.personIs(1, 0), 100000 - 86400 + 9);
        due(x.count(3), 0);
        // Of those ahead nothing is left: no debt, no payment, no ring.
        x = Cities.of(2, 100000);
        due(Cities.ledger(x, "b>a7;" + "a>b9/9;".repeat(22) + "a>b9/9"), 24);
        Cities.law(x, "p1+m(1=1)");
        due(Cities.ledger(x, "b>a7"), 1);
        due(x.personIs(0, 4), -7);
        due(x.personIs(1, 4), 7);
        due(x.costs(0, 0), 120);
        due(x.costs(1, 0), 60);
        due(x.rings(0), -2);
        x.days(1);
        due(x.personIs(1, 0), 100000 - 1440);
        due(x.personIs(0, 0), 100000 - 2880);
    }

    /** A law of just 240 bytes, by which a heart beats 127 times a minute. */
    private static String fullLaw() {
        return "p11" + "+1".repeat(116) + "(1=1)";
    }

    private static void lawIsAtMostTwoHundredFortyBytes() {
        Bounds.says(T, "THE LAW: a TEXT of at most 240 bytes, no blanks (none at first)");
        StruckBeats x = Cities.of(2, 100000);
        due(x.count(5), 0);
        due(x.costs(0, 0), 3600);
        due(fullLaw().length(), 240);
        due(Cities.law(x, fullLaw()), 1);
        due(x.costs(0, 0), 60 * 127);
        due(law(fullLaw().substring(0, 239) + "x"), -1239);
        due(Cities.law(x, fullLaw() + ";"), -1);
        due(x.count(6), 260);
        due(x.law(240), 1);
        // One full law takes the place of another, again and again.
        for (int again = 0; again < 5; again++) {
            due(Cities.law(x, fullLaw().replaceFirst("11", "1" + again)), 1);
            due(x.costs(0, 0), 60 * (126 + again));
        }
        String[] blanks = {" p1(1=1)", "p 1(1=1)", "p1 (1=1)", "p1( 1=1)", "p1(1 =1)", "p1(1= 1)", "p1(1=1 )", "p1(1=1) "};
        for (int i = 0; i < blanks.length; i++) {
            due(law(blanks[i]), -1000 - i);
        }
        due(law("p1(1=1); x(1=1)"), -1008);
        due(law("p1 1(1=1)"), -1002);
    }

    private static void lawRules() {
        Bounds.says(T, "RULES (16 at most) with a ; (59) between two");
        String sixteen = "x(1=2);".repeat(15) + "x(1=2)";
        due(law("x(1=2)"), 1);
        due(law(sixteen), 16);
        due(law(sixteen + ";x(1=2)"), -4112);
        due(law("x(1=2):x(1=2)"), -1006);
        due(law("x(1=2)<x(1=2)"), -1006);
        due(law("x(1=2)x(1=2)"), -1006);
        due(law(";x(1=2)"), -1000);
        due(law("x(1=2);"), -1007);
        due(law("x(1=2);;x(1=2)"), -1007);

        Bounds.says(T, "4 a 17th RULE, at its letter (if that can stand there)");
        due(law(sixteen + ";p"), -4112);
        due(law(sixteen + ";i1(1=1)"), -4112);
        due(law(sixteen + ";x("), -4112);
        due(law(sixteen + ";q"), -1112);
        due(law(sixteen + ";"), -1112);
        due(law(sixteen + ")"), -1111);
        due(law("x(1=2);".repeat(15) + "p1(1=2)"), 16);
    }

    private static void lawShapes() {
        Bounds.says(T, "a letter, E, and (C), of x only (C)");
        for (int b = 0; b < 256; b++) {
            boolean isWorth = b == 'p' || b == 'i';
            due(law(sign(b) + "1(1=1)"), isWorth ? 1 : b == 'x' ? -1001 : -1000);
            due(law(sign(b) + "(1=1)"), isWorth ? -1001 : b == 'x' ? 1 : -1000);
        }
        due(law("p"), -1001);
        due(law("x"), -1001);
        due(law("p1"), -1002);
        due(law("p1("), -1003);
        due(law("p1()"), -1003);
        due(law("x()"), -1002);
        due(law("x(1=1"), -1005);
        due(law("x(1=1))"), -1006);

        Bounds.says(T, "a FACTOR: [E], a number of one to five digits, or a letter");
        for (int b = 0; b < 256; b++) {
            boolean isLetter = "kdhabnmtw".indexOf(b) >= 0;
            boolean isDigit = b >= '0' && b <= '9';
            due(law("p" + sign(b) + "(1=1)"), isLetter || isDigit ? 1 : b == '[' ? -1002 : -1001);
        }
        due(law("p99999(1=1)"), 1);
        due(law("p100000(1=1)"), -2006);
        due(law("p[](1=1)"), -1002);
        due(law("p[1](1=1)"), 1);
        due(law("p[1(1=1)"), -1003);
        due(law("p[1)(1=1)"), -1003);
        due(law("p1](1=1)"), -1002);
        due(law("pk1(1=1)"), -1002);
        due(law("p1k(1=1)"), -1002);
        due(law("pkk(1=1)"), -1002);

        Bounds.says(T, "2 a sixth digit, at it");
        due(law("p12345(1=1)"), 1);
        due(law("p123456(1=1)"), -2006);
        due(law("p1234567(1=1)"), -2006);
        due(law("p000001(1=1)"), -2006);
        due(law("x(12345=12345)"), 1);
        due(law("x(123456=1)"), -2007);
        due(law("x(1=123456)"), -2009);
        due(law("x(1=1+00000*000000"), -2017);
    }

    private static void lawFaultsOfSigns() {
        Bounds.says(T, "FAULTS, the first from the left: 1 what can't stand there (the end, too); 2 a sixth digit");
        String[] texts = {
            "x(1", "x(1=", "x(1)", "x(1=)", "x(=1)", "x(1==1)", "x(1<>1)", "x(1=1=1)", "x(1=1&)", "x(1=1|)", "x(&1=1)", "x(|1=1)",
            "x(1=1&&1=1)", "x(1=1|&1=1)", "x(!)", "x(!&1=1)", "x(1!=1)", "x(1=!1)", "x((1=1)=1)", "x((1)=1)", "x((1+1)*2=4)",
            "x([1=1])", "x([1)]=1)", "x(1+=1)", "x(1*/1=1)", "x(-1=1)", "x(1=1)1", "p1+(1=1)", "p+1(1=1)", "p1=1(1=1)",
            "x(", "p1(1=1);", "p1(1=1);x", "p[", "p[1", "p1+", "x(!", "x((", "x(1=1&", "q123456", "p123456q",
        };
        int[] places = {
            3, 4, 3, 4, 2, 4, 4, 5, 6, 6, 2, 2,
            6, 6, 3, 3, 3, 4, 7, 4, 6,
            4, 4, 4, 4, 2, 6, 3, 1, 2,
            2, 8, 9, 2, 3, 3, 3, 3, 6, 0, -1,
        };
        for (int i = 0; i < texts.length; i++) {
            due(law(texts[i]), places[i] < 0 ? -2006 : -1000 - places[i]);
        }
        for (int b = 0; b < 256; b++) {
            boolean goesOn = "+-*/%".indexOf(b) >= 0 || b == '=' || b == '<' || b == '>';
            boolean isDigit = b >= '0' && b <= '9';
            due(law("x(1" + sign(b)), goesOn || isDigit ? -1004 : -1003);
            boolean isBehindTest = b == '&' || b == '|' || b == ')' || isDigit || "+-*/%".indexOf(b) >= 0;
            due(law("x(1=1" + sign(b)), b == ')' ? 1 : isBehindTest ? -1006 : -1005);
        }
    }

    private static void lawSeventhThatIsOpen() {
        Bounds.says(T, "5 a seventh of ( [ ! that are open in one another, at it (the ( of the RULE counts; "
            + "a ! is open till its TEST ends; the E of a RULE stands ahead of it)");
        due(law("x((((((1=1))))))"), 1);
        due(law("x(((((((1=1)))))))"), -5007);
        due(law("x((((((("), -5007);
        due(law("x(!!!!!1=1)"), 1);
        due(law("x(!!!!!!1=1)"), -5007);
        due(law("x([[[[[1]]]]]=1)"), 1);
        due(law("x([[[[[[1]]]]]]=1)"), -5007);
        due(law("x(1=[[[[[[1]]]]]])"), -5009);
        due(law("x(!(!(![1]=1)))"), -5007);
        due(law("x(!(!([1]=1)))"), 1);
        due(law("x(!(!!!1=1))"), 1);
        due(law("x(!(!!!!1=1))"), -5007);
        due(law("p[[[[[[1]]]]]](1=1)"), 1);
        due(law("p[[[[[[[1]]]]]]](1=1)"), -5007);
        due(law("i[[[[[[1]]]]]]((((((1=1))))))"), 1);
        due(law("x(![[[[1]]]]=[[[[1]]]])"), 1);
        due(law("x(!1=[[[[[1]]]]])"), -5009);
        due(law("x(!1=1&[[[[[1]]]]]=1)"), 1);
        due(law("x(!1=1|!!!!!1=1)"), 1);
        due(law("x(!!!!!1=1&!!!!!!1=1)"), -5016);
        due(law("x((((((1=1)))))&(((((1=1))))))"), 1);
        due(law("x(1=1);x((((((1=1))))))"), 2);
        due(law("x(!(1=1)&!!!!!1=1)"), 1);
    }
}
