/** The bell founders' city, in which everyone is struck so many beats at birth. */
public final class StruckBeats {
    /** There is none. */
    public static final int NONE = -1;

    private static final int IMPOSSIBLE = -2;
    private static final int NOT_RIGHT = -3;
    private static final int NO_SUCH_PERSON = -1000000000;

    private static final int PEOPLE = 16;
    private static final int LOANS = 24;
    private static final int HOURS = 24;
    private static final int RULES = 16;
    private static final int THINGS = 5;

    private static final int TAPE_BYTES = 260;
    private static final int LAW_BYTES = 240;
    private static final int ROUTINE_BYTES = 60;
    private static final int LEDGER_BYTES = 200;

    private static final int MOST_BEATS = 999999999;
    private static final int MOST_AGE = 99999;
    private static final int MOST_DUE = 9999999;
    private static final int MOST_GIFT = 9999;
    private static final int FASTEST = 255;
    private static final int USUAL_PULSE = 60;
    private static final int MINUTES = 60;
    private static final int LAST_DAY = 9999;
    private static final int MOST_DAYS = 60;
    private static final int MOST_LOAN_DAYS = 3650;
    private static final int MOST_TICK = 65535;
    private static final int MOST_MUCH = 6120;
    private static final int MOST_NUMBER = 9999;
    private static final int WORDS = 65536;

    /** What cannot stand there. */
    private static final int FAULT_SIGN = 1;
    private static final int FAULT_DIGIT = 2;
    private static final int FAULT_ZERO = 3;
    private static final int FAULT_MANY = 4;
    private static final int FAULT_DEEP = 5;
    /** In a routine more than 24 hours, in a ledger one and himself. */
    private static final int FAULT_HOURS = 6;
    private static final int FAULT_HIMSELF = 6;
    private static final int FAULT_UNTOLD = 7;

    private final Tape tape;
    private final City now;
    private final City kept;
    private final City trial;
    private final Routines routines;
    private final LedgerReader ledgers;
    private final LawReader laws;
    private final Judge judge;
    private final Rings ringSearch;
    private final Joys joys;
    private final Sums sums;
    private Law law;
    private Law spareLaw;
    private boolean isKept;

    public StruckBeats() {
        tape = new Tape();
        now = new City();
        kept = new City();
        trial = new City();
        routines = new Routines(tape);
        ledgers = new LedgerReader(tape);
        laws = new LawReader(tape);
        law = new Law();
        spareLaw = new Law();
        judge = new Judge(routines, now, law);
        ringSearch = new Rings();
        joys = new Joys();
        sums = new Sums(tape);
        isKept = false;
    }

    public boolean person(int p, int beats, int age) {
        if (!isWithin(p, 0, PEOPLE - 1) || !isWithin(beats, 1, MOST_BEATS) || !isWithin(age, 0, MOST_AGE)) {
            return false;
        }
        now.beats[p] = beats;
        now.ages[p] = age;
        now.told |= 1 << p;
        now.living |= 1 << p;
        return true;
    }

    public int feed(int a, int b, int c, int d, int e) {
        if (tape.size > TAPE_BYTES - 20) {
            return NONE;
        }
        tape.add(a);
        tape.add(b);
        tape.add(c);
        tape.add(d);
        tape.add(e);
        return tape.size;
    }

    public int law(int n) {
        if (!isWithin(n, 1, LAW_BYTES) || !tape.has(n)) {
            return NONE;
        }
        tape.open(n);
        laws.read(spareLaw);
        if (tape.fault != 0) {
            return tape.fault;
        }
        Law before = law;
        law = spareLaw;
        spareLaw = before;
        return law.size;
    }

    public int routine(int p, int n) {
        if (!isWithin(p, 0, PEOPLE - 1) || !isWithin(n, 1, ROUTINE_BYTES) || !tape.has(n)) {
            return NONE;
        }
        tape.open(n);
        return routines.read(p);
    }

    public int ledger(int n) {
        if (!isWithin(n, 1, LEDGER_BYTES) || !tape.has(n)) {
            return NONE;
        }
        tape.open(n);
        ledgers.read(now.told);
        if (tape.fault != 0) {
            return tape.fault;
        }
        now.loans.copy(ledgers.loans);
        return now.loans.size;
    }

    public int days(int n) {
        if (!isWithin(n, 1, MOST_DAYS)) {
            return NONE;
        }
        return passDays(now, n);
    }

    public int tried(int n, int what) {
        boolean isPerson = what >= 100 && now.isTold(what - 100);
        boolean isLoan = what >= 200 && now.loans.has(what - 200);
        if (!isWithin(n, 1, MOST_DAYS) || !isWithin(what, 0, 2) && !isPerson && !isLoan) {
            return NONE;
        }
        trial.copy(now);
        int died = passDays(trial, n);
        if (isLoan) {
            return trial.loans.dueOf(what - 200);
        }
        if (isPerson) {
            return trial.beatsOf(what - 100);
        }
        if (what == 0) {
            return died;
        }
        return what == 1 ? trial.parish : trial.living;
    }

    public int personIs(int p, int what) {
        if (!now.isTold(p)) {
            return NO_SUCH_PERSON;
        }
        switch (what) {
            case 0:
                return now.beatsOf(p);
            case 1:
                return now.ageOf(p);
            case 2:
                return now.isLiving(p) ? 1 : 0;
            case 3:
                return routines.hoursOf(p);
            case 4:
                return now.loans.netOf(p);
            default:
                return NO_SUCH_PERSON;
        }
    }

    public int loanIs(int l, int what) {
        return now.loans.partOf(l, what);
    }

    public int dies(int p, int n) {
        if (!now.isTold(p) || !isWithin(n, 1, MOST_DAYS)) {
            return NONE;
        }
        if (!now.isLiving(p)) {
            return 0;
        }
        trial.copy(now);
        for (int day = 1; day <= n; day++) {
            passDays(trial, 1);
            if (!trial.isLiving(p)) {
                return day;
            }
        }
        return IMPOSSIBLE;
    }

    public int costs(int p, int what) {
        if (!now.isLiving(p) || !isWithin(what, 0, HOURS)) {
            return NONE;
        }
        return what == HOURS ? costOf(p, 0, HOURS) : costOf(p, what, what + 1);
    }

    public int paidOff(int l) {
        if (!now.loans.has(l)) {
            return NONE;
        }
        int due = now.loans.dueOf(l);
        for (int day = 0; day <= MOST_LOAN_DAYS; day++) {
            if (due == 0) {
                return day;
            }
            due = now.loans.dueNextDay(l, due);
        }
        return IMPOSSIBLE;
    }

    public int dueAfter(int l, int n) {
        if (!now.loans.has(l) || !isWithin(n, 0, MOST_LOAN_DAYS)) {
            return NONE;
        }
        int due = now.loans.dueOf(l);
        for (int day = 0; day < n; day++) {
            due = now.loans.dueNextDay(l, due);
        }
        return due;
    }

    public int hiccups(int some, int what) {
        if ((some & ~now.told) != 0 || !isWithin(what, 0, 1)) {
            return NONE;
        }
        int have = some & now.living;
        int last = 0;
        // A whole day in which nobody gets them is like every day behind it.
        for (int hour = 0; hour < PEOPLE * HOURS && hour < last + HOURS; hour++) {
            int then = routines.joined(have, now.living, hour % HOURS);
            if (then != have) {
                have = then;
                last = hour + 1;
            }
        }
        return what == 0 ? have : last;
    }

    public int left(int p) {
        return now.isLiving(p) ? daysLeft(p) : NONE;
    }

    public int longest() {
        int who = IMPOSSIBLE;
        int most = -1;
        for (int p = 0; p < PEOPLE; p++) {
            if (now.isLiving(p)) {
                int days = daysLeft(p);
                if (days > most) {
                    most = days;
                    who = p;
                }
            }
        }
        return who;
    }

    public int stillest(int what) {
        if (!isWithin(what, 0, 1)) {
            return NONE;
        }
        int which = 0;
        int least = costOfAll(0);
        for (int hour = 1; hour < HOURS; hour++) {
            int cost = costOfAll(hour);
            if (cost < least) {
                least = cost;
                which = hour;
            }
        }
        return what == 0 ? which : least;
    }

    public int alike(int p, int q, int what) {
        if (!now.isTold(p) || !now.isTold(q) || p == q || !isWithin(what, 0, 2)) {
            return NONE;
        }
        int most = routines.sameHours(p, q, 0);
        if (what == 0) {
            return most;
        }
        int later = 0;
        for (int hours = 1; hours < HOURS; hours++) {
            int same = routines.sameHours(p, q, hours);
            if (same > most) {
                most = same;
                later = hours;
            }
        }
        return what == 1 ? later : most;
    }

    public int rings(int what) {
        if (!isWithin(what, 0, 1)) {
            return NONE;
        }
        ringSearch.search(now.loans);
        if (ringSearch.bits == 0) {
            return IMPOSSIBLE;
        }
        return what == 0 ? ringSearch.fewest : ringSearch.bits;
    }

    public int settled(int n, int what) {
        if (!isWithin(n, 2, 8) || !isWithin(what, 0, 1) || !tape.has(2 * n)) {
            return NONE;
        }
        tape.open(2 * n);
        return what == 0 ? sums.payments(n) : sums.paidInAll(n);
    }

    public int joy(int n, int much, int what) {
        boolean isAsked = what == 100 || isWithin(what, 0, n - 1);
        if (!isWithin(n, 1, THINGS) || !isWithin(much, 0, MOST_MUCH) || !isAsked || !tape.has(2 * n)) {
            return NONE;
        }
        tape.open(2 * n);
        joys.seek(tape, n, much);
        if (joys.most < 0) {
            return IMPOSSIBLE;
        }
        return what == 100 ? joys.most : joys.hoursOf(what);
    }

    public int run(int n, int what) {
        if (!isWithin(n, 2, 16) || !isWithin(what, 0, 1) || !tape.has(n)) {
            return NONE;
        }
        tape.open(n);
        return sums.bankRun(n, what);
    }

    public int table(int n, int what) {
        boolean isAsked = what == 300 || isWithin(what, 100, 99 + n) || isWithin(what, 200, 199 + n);
        if (!isWithin(n, 2, 30) || !isAsked || !tape.has(n)) {
            return NONE;
        }
        tape.open(n);
        if (!sums.isLifeTable(n)) {
            return NOT_RIGHT;
        }
        if (what == 300) {
            return sums.ageOfMostDeaths(n);
        }
        return sums.expected(n, what % 100, what < 200);
    }

    public int atOnce(int upTo, int what) {
        if (!isWithin(upTo, 0, MOST_TICK) || !isWithin(what, 0, 1) || !tape.has(4)) {
            return NONE;
        }
        tape.open(4);
        if (tape.byteAt(1) == 0 || tape.byteAt(3) == 0) {
            return NOT_RIGHT;
        }
        int first = sums.firstTogether();
        return what == 0 ? first : sums.timesTogether(first, upTo);
    }

    public int pulse(int n, int what) {
        if (!isWithin(n, 2, 20) || !isWithin(what, 0, 1) || !tape.has(2 * n)) {
            return NONE;
        }
        tape.open(2 * n);
        return sums.pulseOf(n, what);
    }

    public int stairs(int n, int what) {
        if (!isWithin(n, 2, 20) || !isWithin(what, 0, 1) || !tape.has(n)) {
            return NONE;
        }
        tape.open(n);
        return sums.climb(n, what);
    }

    public int bells(int n, int number) {
        if (!isWithin(n, 1, 5) || !isWithin(number, 1, MOST_NUMBER) || !tape.has(n)) {
            return NONE;
        }
        tape.open(n);
        return sums.areBells(n) ? sums.fewestBlows(n, number) : NOT_RIGHT;
    }

    public boolean seed(int x) {
        if (!isWithin(x, 0, WORDS - 1)) {
            return false;
        }
        now.drawn = x;
        return true;
    }

    public int keep() {
        kept.copy(now);
        isKept = true;
        return now.day;
    }

    public boolean undo() {
        if (isKept) {
            now.copy(kept);
        }
        return isKept;
    }

    public int check(int n) {
        if (!isWithin(n, 0, PEOPLE) || !tape.has(n)) {
            return IMPOSSIBLE;
        }
        tape.open(n);
        for (int p = 0; p < n; p++) {
            int right = now.isLiving(p) ? 1 : 0;
            if (!now.isTold(p)) {
                right = 255;
            }
            if (tape.byteAt(p) != right) {
                return p;
            }
        }
        return NONE;
    }

    public int count(int what) {
        switch (what) {
            case 0:
                return now.day;
            case 1:
                return now.told;
            case 2:
                return now.living;
            case 3:
                return now.parish;
            case 4:
                return now.loans.size;
            case 5:
                return law.size;
            case 6:
                return tape.size;
            case 7:
                return now.drawn;
            case 8:
                return now.richest();
            default:
                return NONE;
        }
    }

    private static boolean isWithin(int number, int least, int most) {
        return number >= least && number <= most;
    }

    /** How many die in them; no day goes by behind the last one. */
    private int passDays(City city, int n) {
        int before = Integer.bitCount(city.living);
        for (int i = 0; i < n && city.day < LAST_DAY; i++) {
            judge.sit(city, law);
            for (int hour = 0; hour < HOURS; hour++) {
                passHour(city, hour);
            }
            city.payLoans();
            giveFromParish(city);
            city.growOlder();
        }
        return before - Integer.bitCount(city.living);
    }

    private void passHour(City city, int hour) {
        for (int p = 0; p < PEOPLE; p++) {
            if (city.isLiving(p)) {
                judge.turnTo(p, hour, city.draw(), true);
                // An x has no worth of its own: 1 stands for one that holds.
                if (judge.worth('x', 0, 1, 1) == 1) {
                    city.bury(p);
                } else {
                    city.spend(p, MINUTES * judge.worth('p', USUAL_PULSE, 1, FASTEST));
                }
            }
        }
    }

    private void giveFromParish(City city) {
        for (int p = 0; p < PEOPLE; p++) {
            if (city.isLiving(p)) {
                judge.turnTo(p, HOURS, 0, false);
                city.give(p, judge.worth('i', 0, 0, MOST_GIFT));
            }
        }
    }

    /** By the law as it stands, nobody else being there and nothing drawn. */
    private int costOf(int p, int from, int upTo) {
        int cost = 0;
        judge.sit(now, law);
        for (int hour = from; hour < upTo; hour++) {
            judge.turnTo(p, hour, 0, false);
            cost += MINUTES * judge.worth('p', USUAL_PULSE, 1, FASTEST);
        }
        return cost;
    }

    private int costOfAll(int hour) {
        int cost = 0;
        for (int p = 0; p < PEOPLE; p++) {
            if (now.isLiving(p)) {
                cost += costOf(p, hour, hour + 1);
            }
        }
        return cost;
    }

    private int daysLeft(int p) {
        int cost = costOf(p, 0, HOURS);
        return cost > 0 ? now.beatsOf(p) / cost : 0;
    }

    /** The tape, and the text that is read off it: its place and its first fault. */
    private static final class Tape {
        private static final int NO_SIGN = -1;

        private final int[] bytes = new int[TAPE_BYTES];
        private int size = 0;
        private int end = 0;
        private int place = 0;
        private int sign = NO_SIGN;
        private int fault = 0;

        void add(int fourBytes) {
            for (int shift = 24; shift >= 0 && size < bytes.length; shift -= 8) {
                bytes[size] = fourBytes >>> shift & 255;
                size++;
            }
        }

        boolean has(int n) {
            return n <= size;
        }

        /** The bytes stay readable as a text while the tape itself is empty. */
        void open(int n) {
            end = Math.min(n, bytes.length);
            place = 0;
            sign = end > 0 ? bytes[0] : NO_SIGN;
            fault = 0;
            size = 0;
        }

        int byteAt(int i) {
            return i >= 0 && i < bytes.length ? bytes[i] : 0;
        }

        int wordAt(int i) {
            return byteAt(2 * i) * 256 + byteAt(2 * i + 1);
        }

        void step() {
            if (place < end) {
                place++;
            }
            sign = place >= 0 && place < end ? bytes[place] : NO_SIGN;
        }

        /** Later faults, of what is read on behind the first, do not count. */
        void fail(int number, int where) {
            if (fault == 0) {
                fault = -1000 * number - where;
            }
        }

        boolean goesOn() {
            return fault == 0 && place < end;
        }

        boolean stands(int what) {
            return fault == 0 && sign == what;
        }

        void take(int what) {
            if (sign == what) {
                step();
            } else {
                fail(FAULT_SIGN, place);
            }
        }

        int number(int mostDigits) {
            int value = 0;
            int digits = 0;
            while (digits < mostDigits && sign >= '0' && sign <= '9') {
                value = value * 10 + sign - '0';
                digits++;
                step();
            }
            if (digits == 0) {
                fail(FAULT_SIGN, place);
            } else if (sign >= '0' && sign <= '9') {
                fail(FAULT_DIGIT, place);
            }
            return value;
        }
    }

    /** Who lends how much to whom, and what is due of it. */
    private static final class Loans {
        private final int[] lenders = new int[LOANS];
        private final int[] debtors = new int[LOANS];
        private final int[] amounts = new int[LOANS];
        private final int[] rates = new int[LOANS];
        private final int[] daily = new int[LOANS];
        private final int[] dues = new int[LOANS];
        private int size = 0;

        void copy(Loans other) {
            System.arraycopy(other.lenders, 0, lenders, 0, LOANS);
            System.arraycopy(other.debtors, 0, debtors, 0, LOANS);
            System.arraycopy(other.amounts, 0, amounts, 0, LOANS);
            System.arraycopy(other.rates, 0, rates, 0, LOANS);
            System.arraycopy(other.daily, 0, daily, 0, LOANS);
            System.arraycopy(other.dues, 0, dues, 0, LOANS);
            size = other.size;
        }

        void add(int lender, int debtor, int amount, int rate, int paidDaily) {
            if (size < LOANS) {
                lenders[size] = lender;
                debtors[size] = debtor;
                amounts[size] = amount;
                rates[size] = rate;
                daily[size] = paidDaily;
                dues[size] = amount;
                size++;
            }
        }

        boolean has(int l) {
            return l >= 0 && l < size && l < LOANS;
        }

        int partOf(int l, int what) {
            if (!has(l)) {
                return NONE;
            }
            switch (what) {
                case 0:
                    return lenders[l];
                case 1:
                    return debtors[l];
                case 2:
                    return amounts[l];
                case 3:
                    return rates[l];
                case 4:
                    return daily[l];
                case 5:
                    return dues[l];
                default:
                    return NONE;
            }
        }

        int dueOf(int l) {
            return has(l) ? dues[l] : 0;
        }

        int grown(int l, int due) {
            int rate = has(l) ? rates[l] : 0;
            return Math.min(MOST_DUE, due + (due * rate + 99) / 100);
        }

        int dueNextDay(int l, int due) {
            int grown = grown(l, due);
            return has(l) ? grown - Math.min(daily[l], grown) : due;
        }

        int netOf(int p) {
            int net = 0;
            for (int l = 0; l < size && l < LOANS; l++) {
                if (lenders[l] == p) {
                    net += dues[l];
                }
                if (debtors[l] == p) {
                    net -= dues[l];
                }
            }
            return net;
        }

        int owedBy(int p) {
            int owed = 0;
            for (int l = 0; l < size && l < LOANS; l++) {
                if (debtors[l] == p && dues[l] > 0) {
                    owed++;
                }
            }
            return owed;
        }
    }

    /** All that is kept and undone, and that days change. */
    private static final class City {
        private final int[] beats = new int[PEOPLE];
        private final int[] ages = new int[PEOPLE];
        private final Loans loans = new Loans();
        private int told = 0;
        private int living = 0;
        private int parish = 0;
        private int day = 0;
        private int drawn = 1;

        void copy(City other) {
            System.arraycopy(other.beats, 0, beats, 0, PEOPLE);
            System.arraycopy(other.ages, 0, ages, 0, PEOPLE);
            loans.copy(other.loans);
            told = other.told;
            living = other.living;
            parish = other.parish;
            day = other.day;
            drawn = other.drawn;
        }

        boolean isTold(int p) {
            return p >= 0 && p < PEOPLE && (told >> p & 1) != 0;
        }

        boolean isLiving(int p) {
            return p >= 0 && p < PEOPLE && (living >> p & 1) != 0;
        }

        int beatsOf(int p) {
            return p >= 0 && p < PEOPLE ? beats[p] : 0;
        }

        int ageOf(int p) {
            return p >= 0 && p < PEOPLE ? ages[p] : 0;
        }

        int richest() {
            int who = IMPOSSIBLE;
            int most = -1;
            for (int p = 0; p < PEOPLE; p++) {
                if (isTold(p) && beats[p] > most) {
                    most = beats[p];
                    who = p;
                }
            }
            return who;
        }

        int draw() {
            drawn = (25173 * drawn + 13849) % WORDS;
            return drawn % 10;
        }

        void bury(int p) {
            if (isLiving(p)) {
                parish = Math.min(MOST_BEATS, parish + beats[p]);
                beats[p] = 0;
                living &= ~(1 << p);
            }
        }

        void spend(int p, int cost) {
            if (isLiving(p)) {
                beats[p] = Math.max(0, beats[p] - cost);
                if (beats[p] == 0) {
                    bury(p);
                }
            }
        }

        void give(int p, int gift) {
            if (isLiving(p)) {
                int given = Math.min(Math.min(gift, parish), MOST_BEATS - beats[p]);
                beats[p] += given;
                parish -= given;
            }
        }

        void payLoans() {
            for (int l = 0; l < loans.size && l < LOANS; l++) {
                int lender = loans.lenders[l];
                int debtor = loans.debtors[l];
                if (isLiving(lender) && isLiving(debtor)) {
                    int due = loans.grown(l, loans.dues[l]);
                    int paid = Math.min(Math.min(loans.daily[l], due), beats[debtor] - 1);
                    loans.dues[l] = due - paid;
                    beats[debtor] -= paid;
                    beats[lender] = Math.min(MOST_BEATS, beats[lender] + paid);
                }
            }
        }

        void growOlder() {
            for (int p = 0; p < PEOPLE; p++) {
                if (isLiving(p)) {
                    ages[p] = Math.min(MOST_AGE, ages[p] + 1);
                }
            }
            day = Math.min(LAST_DAY, day + 1);
        }
    }

    /** What each one does in each hour, and how a text of it is read. */
    private static final class Routines {
        private static final String DOINGS = "scwrlfo";
        private static final int DEEPEST = 2;

        private final Tape tape;
        private final int[] doings = new int[PEOPLE * HOURS];
        private final int[] lengths = new int[PEOPLE];
        private final int[] draft = new int[HOURS];
        private int length = 0;

        Routines(Tape tape) {
            this.tape = tape;
        }

        int hoursOf(int p) {
            return p >= 0 && p < PEOPLE ? lengths[p] : 0;
        }

        int doing(int p, int hour) {
            boolean isHour = p >= 0 && p < PEOPLE && hour >= 0 && hour < HOURS;
            return isHour ? doings[p * HOURS + hour] : 0;
        }

        int othersWith(int p, int among, int hour) {
            if (p < 0 || p >= PEOPLE || hour < 0 || hour >= HOURS) {
                return 0;
            }
            int others = 0;
            int does = doings[p * HOURS + hour];
            for (int q = 0; q < PEOPLE; q++) {
                if (q != p && (among >> q & 1) != 0 && doings[q * HOURS + hour] == does) {
                    others++;
                }
            }
            return others;
        }

        /** Some, and with them those among whom one does what one of some does. */
        int joined(int some, int among, int hour) {
            int shared = 0;
            for (int p = 0; p < PEOPLE; p++) {
                if ((some >> p & 1) != 0) {
                    shared |= 1 << doing(p, hour);
                }
            }
            int all = some;
            for (int p = 0; p < PEOPLE; p++) {
                if ((among >> p & 1) != 0 && (shared >> doing(p, hour) & 1) != 0) {
                    all |= 1 << p;
                }
            }
            return all;
        }

        int sameHours(int p, int q, int later) {
            int same = 0;
            for (int hour = 0; hour < HOURS; hour++) {
                if (doing(p, hour) == doing(q, (hour + HOURS - later) % HOURS)) {
                    same++;
                }
            }
            return same;
        }

        int read(int p) {
            length = 0;
            readHours(0);
            if (tape.fault != 0) {
                return tape.fault;
            }
            if (p >= 0 && p < PEOPLE) {
                for (int hour = 0; hour < HOURS; hour++) {
                    doings[p * HOURS + hour] = hour < length ? draft[hour] : 0;
                }
                lengths[p] = length;
            }
            return length;
        }

        private void readHours(int open) {
            readPiece(open);
            for (int i = 1; i < ROUTINE_BYTES && isMore(open); i++) {
                readPiece(open);
            }
        }

        /** Within brackets the end of the text is no end: what is read there is the fault. */
        private boolean isMore(int open) {
            if (open == 0) {
                return tape.goesOn();
            }
            return tape.fault == 0 && tape.sign != ')';
        }

        private void readPiece(int open) {
            int first = tape.place;
            int times = 1;
            if (tape.sign >= '2' && tape.sign <= '9') {
                times = tape.sign - '0';
                tape.step();
            }
            int from = length;
            if (tape.stands('(')) {
                readGroup(open);
            } else {
                readDoing();
            }
            if (tape.fault == 0) {
                repeat(from, times);
                if (length > HOURS) {
                    tape.fail(FAULT_HOURS, first);
                }
            }
        }

        private void readGroup(int open) {
            if (open >= DEEPEST) {
                tape.fail(FAULT_DEEP, tape.place);
                return;
            }
            tape.step();
            readHours(open + 1);
            tape.take(')');
        }

        private void readDoing() {
            int does = tape.goesOn() ? DOINGS.indexOf((char) tape.sign) : -1;
            if (does < 0) {
                tape.fail(FAULT_SIGN, tape.place);
                return;
            }
            tape.step();
            put(does);
        }

        /** The hours from one on come so many times in all. */
        private void repeat(int from, int times) {
            int upTo = length;
            for (int i = 1; i < times; i++) {
                for (int hour = from; hour < upTo; hour++) {
                    put(hour >= 0 && hour < HOURS ? draft[hour] : 0);
                }
            }
        }

        /** Hours beyond the day are counted, for the fault that they are. */
        private void put(int does) {
            if (length >= 0 && length < HOURS) {
                draft[length] = does;
            }
            length++;
        }
    }

    /** Reads a ledger into loans of its own, which count only if there is no fault. */
    private static final class LedgerReader {
        private final Tape tape;
        private final Loans loans = new Loans();

        LedgerReader(Tape tape) {
            this.tape = tape;
        }

        void read(int told) {
            loans.size = 0;
            readLoan(told);
            for (int i = 1; i < LEDGER_BYTES && tape.goesOn(); i++) {
                tape.take(';');
                readLoan(told);
            }
        }

        private void readLoan(int told) {
            int lender = readPerson(told, NONE);
            tape.take('>');
            int debtor = readPerson(told, lender);
            int first = tape.place;
            int amount = tape.number(6);
            if (amount == 0) {
                tape.fail(FAULT_ZERO, first);
            }
            int rate = readPart('@', 2);
            int daily = readPart('/', 4);
            if (tape.fault == 0) {
                loans.add(lender, debtor, amount, rate, daily);
            }
        }

        /** The lender of a debtor, NONE ahead of a lender. */
        private int readPerson(int told, int lender) {
            int who = tape.sign - 'a';
            if (who < 0 || who >= PEOPLE) {
                tape.fail(FAULT_SIGN, tape.place);
                return PEOPLE;
            }
            if (loans.size >= LOANS) {
                tape.fail(FAULT_MANY, tape.place);
            } else if (who == lender) {
                tape.fail(FAULT_HIMSELF, tape.place);
            } else if ((told >> who & 1) == 0) {
                tape.fail(FAULT_UNTOLD, tape.place);
            }
            tape.step();
            return who;
        }

        private int readPart(int sign, int mostDigits) {
            if (!tape.stands(sign)) {
                return 0;
            }
            tape.step();
            return tape.number(mostDigits);
        }
    }

    /**
     * The rules as a code: of each rule the steps of its E, behind them those of its C.
     * A step is 16 times an argument and what to do; no step comes of less than a byte.
     */
    private static final class Law {
        private static final int NUMBER = 0;
        private static final int LETTER = 1;
        private static final int NOT = 2;
        private static final int IF_TRUE = 3;
        private static final int IF_FALSE = 4;
        private static final int ADD = 5;
        private static final int SUBTRACT = 6;
        private static final int MULTIPLY = 7;
        private static final int DIVIDE = 8;
        private static final int REMAIN = 9;
        private static final int LESS = 10;
        private static final int MORE = 11;
        private static final int SAME = 12;

        private final int[] code = new int[LAW_BYTES];
        private final int[] kinds = new int[RULES];
        private final int[] starts = new int[RULES];
        private final int[] cases = new int[RULES];
        private final int[] ends = new int[RULES];
        private int length = 0;
        private int size = 0;

        void clear() {
            length = 0;
            size = 0;
        }

        void addRule(int kind, int start, int caseStart) {
            if (size < RULES) {
                kinds[size] = kind;
                starts[size] = start;
                cases[size] = caseStart;
                ends[size] = length;
                size++;
            }
        }

        void put(int step, int argument) {
            if (length < LAW_BYTES) {
                code[length] = argument * 16 + step;
                length++;
            }
        }

        /** A jump ahead; the one before it goes to it, as what makes one go makes both. */
        int putJump(int step, int before) {
            aim(before);
            put(step, length + 1);
            return length - 1;
        }

        void aim(int jump) {
            if (jump >= 0 && jump < LAW_BYTES) {
                code[jump] = length * 16 + (code[jump] & 15);
            }
        }
    }

    /** Reads a law, writing its code as it goes. */
    private static final class LawReader {
        private static final String LETTERS = "kdhabnmtw";
        private static final String OPERATORS = "+-*/%";
        private static final String COMPARISONS = "<>=";
        private static final int DEEPEST = 6;

        private final Tape tape;

        LawReader(Tape tape) {
            this.tape = tape;
        }

        void read(Law law) {
            law.clear();
            readRule(law);
            for (int i = 1; i < LAW_BYTES && tape.goesOn(); i++) {
                tape.take(';');
                readRule(law);
            }
        }

        private void readRule(Law law) {
            int kind = tape.sign;
            if (kind != 'p' && kind != 'i' && kind != 'x') {
                tape.fail(FAULT_SIGN, tape.place);
                return;
            }
            if (law.size >= RULES) {
                tape.fail(FAULT_MANY, tape.place);
                return;
            }
            tape.step();
            int start = law.length;
            if (kind != 'x') {
                readSum(law, 0);
            }
            int caseStart = law.length;
            tape.take('(');
            readCase(law, 1);
            tape.take(')');
            law.addRule(kind, start, caseStart);
        }

        private void readCase(Law law, int open) {
            int ifTrue = NONE;
            int ifFalse = NONE;
            readTest(law, open);
            for (int i = 1; i < LAW_BYTES && (tape.stands('&') || tape.stands('|')); i++) {
                if (tape.stands('&')) {
                    ifFalse = law.putJump(Law.IF_FALSE, ifFalse);
                } else {
                    law.aim(ifFalse);
                    ifFalse = NONE;
                    ifTrue = law.putJump(Law.IF_TRUE, ifTrue);
                }
                tape.step();
                readTest(law, open);
            }
            law.aim(ifFalse);
            law.aim(ifTrue);
        }

        private void readTest(Law law, int open) {
            if (tape.stands('!')) {
                if (opens(open)) {
                    readTest(law, open + 1);
                    law.put(Law.NOT, 0);
                }
            } else if (tape.stands('(')) {
                if (opens(open)) {
                    readCase(law, open + 1);
                    tape.take(')');
                }
            } else {
                readSum(law, open);
                int step = stepOf(COMPARISONS, Law.LESS);
                if (step == NONE) {
                    tape.fail(FAULT_SIGN, tape.place);
                    return;
                }
                tape.step();
                readSum(law, open);
                law.put(step, 0);
            }
        }

        /** A + or - waits until the term behind it is read. */
        private void readSum(Law law, int open) {
            int waiting = NONE;
            readFactor(law, open);
            int step = stepOf(OPERATORS, Law.ADD);
            for (int i = 1; i < LAW_BYTES && step != NONE; i++) {
                tape.step();
                boolean isOfTerms = step == Law.ADD || step == Law.SUBTRACT;
                if (isOfTerms) {
                    putWaiting(law, waiting);
                    waiting = step;
                }
                readFactor(law, open);
                if (!isOfTerms) {
                    law.put(step, 0);
                }
                step = stepOf(OPERATORS, Law.ADD);
            }
            putWaiting(law, waiting);
        }

        private static void putWaiting(Law law, int step) {
            if (step != NONE) {
                law.put(step, 0);
            }
        }

        /** The signs stand in the order of the law's steps, the first of them being given. */
        private int stepOf(String signs, int firstStep) {
            int which = tape.goesOn() ? signs.indexOf((char) tape.sign) : -1;
            return which < 0 ? NONE : firstStep + which;
        }

        private boolean opens(int open) {
            if (open >= DEEPEST) {
                tape.fail(FAULT_DEEP, tape.place);
                return false;
            }
            tape.step();
            return true;
        }

        private void readFactor(Law law, int open) {
            int letter = stepOf(LETTERS, 0);
            if (tape.stands('[')) {
                if (opens(open)) {
                    readSum(law, open + 1);
                    tape.take(']');
                }
            } else if (letter != NONE) {
                tape.step();
                law.put(Law.LETTER, letter);
            } else {
                law.put(Law.NUMBER, tape.number(5));
            }
        }
    }

    /** Asks the law of one at an hour. */
    private static final class Judge {
        private static final int STACK = 32;

        private final Routines routines;
        private final int[] stack = new int[STACK];
        private City city;
        private Law law;
        private int who = 0;
        private int hour = 0;
        private int drawn = 0;
        private boolean isAmongOthers = false;
        private boolean holds = false;
        private boolean isRefused = false;

        Judge(Routines routines, City city, Law law) {
            this.routines = routines;
            this.city = city;
            this.law = law;
        }

        void sit(City ofCity, Law byLaw) {
            city = ofCity;
            law = byLaw;
        }

        /** Among others n is asked; else, in a cost and in what the parish gives, it is 0. */
        void turnTo(int p, int atHour, int withDraw, boolean amongOthers) {
            who = p;
            hour = atHour;
            drawn = withDraw;
            isAmongOthers = amongOthers;
        }

        /** Of the first rule of a kind whose case holds, within bounds; without one as usual. */
        int worth(int kind, int usual, int least, int most) {
            for (int rule = 0; rule < law.size && rule < RULES; rule++) {
                if (law.kinds[rule] == kind) {
                    reckon(law.cases[rule], law.ends[rule]);
                    if (holds && !isRefused) {
                        reckon(law.starts[rule], law.cases[rule]);
                        int value = isRefused ? 0 : stack[0];
                        return Math.max(least, Math.min(most, value));
                    }
                }
            }
            return usual;
        }

        /** Steps go ahead only, so that each is taken once at most. */
        private void reckon(int from, int to) {
            holds = false;
            isRefused = false;
            int top = 0;
            int at = Math.max(0, from);
            while (at < to && at < LAW_BYTES && !isRefused) {
                int step = law.code[at] & 15;
                int argument = law.code[at] >> 4;
                at++;
                if (step == Law.NUMBER || step == Law.LETTER) {
                    if (top < STACK) {
                        stack[top] = step == Law.NUMBER ? argument : letter(argument);
                        top++;
                    }
                } else if (step == Law.NOT) {
                    holds = !holds;
                } else if (step == Law.IF_TRUE || step == Law.IF_FALSE) {
                    if (holds == (step == Law.IF_TRUE)) {
                        at = Math.max(at, argument);
                    }
                } else if (top >= 2) {
                    top -= 2;
                    if (step >= Law.LESS) {
                        holds = compared(step, stack[top], stack[top + 1]);
                    } else {
                        stack[top] = reckoned(step, stack[top], stack[top + 1]);
                        top++;
                    }
                }
            }
        }

        private static boolean compared(int step, int one, int other) {
            if (step == Law.LESS) {
                return one < other;
            }
            return step == Law.MORE ? one > other : one == other;
        }

        private int reckoned(int step, int one, int other) {
            switch (step) {
                case Law.ADD:
                    return one + other;
                case Law.SUBTRACT:
                    return one - other;
                case Law.MULTIPLY:
                    return one * other;
                default:
                    if (other == 0) {
                        isRefused = true;
                        return 0;
                    }
                    return step == Law.DIVIDE ? one / other : one % other;
            }
        }

        /** By the place of the letter in k d h a b n m t w. */
        private int letter(int which) {
            // The parish gives behind hour 23: what is done then is what was done in it.
            int doneAt = Math.min(hour, HOURS - 1);
            switch (which) {
                case 0:
                    return who;
                case 1:
                    return routines.doing(who, doneAt);
                case 2:
                    return hour;
                case 3:
                    return city.ageOf(who) / 365;
                case 4:
                    return city.beatsOf(who) / 1000;
                case 5:
                    return isAmongOthers ? routines.othersWith(who, city.living, doneAt) : 0;
                case 6:
                    return city.loans.owedBy(who);
                case 7:
                    return city.day % 100;
                default:
                    return drawn;
            }
        }
    }

    /** Looks for the shortest ring of loans, from the lowest one of each on. */
    private static final class Rings {
        private final int[] debtors = new int[PEOPLE];
        private int fewest = 0;
        private int bits = 0;

        void search(Loans loans) {
            fewest = PEOPLE + 1;
            bits = 0;
            for (int p = 0; p < PEOPLE; p++) {
                debtors[p] = 0;
            }
            for (int l = 0; l < loans.size && l < LOANS; l++) {
                int lender = loans.lenders[l];
                if (loans.dues[l] > 0 && lender >= 0 && lender < PEOPLE) {
                    debtors[lender] |= 1 << loans.debtors[l];
                }
            }
            for (int first = 0; first < PEOPLE; first++) {
                follow(first, first, 1 << first, 1);
            }
        }

        /** The ring so far, its last one with one loan more than there are behind him. */
        private void follow(int first, int last, int inIt, int length) {
            if (last < 0 || last >= PEOPLE || length > PEOPLE || length > fewest) {
                return;
            }
            if ((debtors[last] >> first & 1) != 0) {
                note(inIt, length);
                return;
            }
            for (int next = first + 1; next < PEOPLE; next++) {
                if ((debtors[last] >> next & 1) != 0 && (inIt >> next & 1) == 0) {
                    follow(first, next, inIt | 1 << next, length + 1);
                }
            }
        }

        private void note(int inIt, int length) {
            if (length < fewest || inIt < bits) {
                fewest = length;
                bits = inIt;
            }
        }
    }

    /** Shares the hours of a day out to things, most of the first ones first. */
    private static final class Joys {
        private final int[] costs = new int[THINGS];
        private final int[] gains = new int[THINGS];
        private final int[] shared = new int[THINGS];
        private final int[] best = new int[THINGS];
        private int size = 0;
        private int most = -1;

        void seek(Tape tape, int n, int much) {
            size = Math.min(n, THINGS);
            most = -1;
            for (int thing = 0; thing < size; thing++) {
                costs[thing] = tape.byteAt(2 * thing);
                gains[thing] = tape.byteAt(2 * thing + 1);
            }
            share(0, HOURS, much, 0);
        }

        int hoursOf(int thing) {
            return thing >= 0 && thing < THINGS ? best[thing] : 0;
        }

        private void share(int thing, int hours, int much, int joy) {
            if (thing < 0 || thing >= size || thing >= THINGS) {
                return;
            }
            if (thing == size - 1) {
                shared[thing] = hours;
                if (hours * costs[thing] <= much) {
                    note(joy + hours * gains[thing]);
                }
                return;
            }
            for (int some = hours; some >= 0; some--) {
                int cost = some * costs[thing];
                if (cost <= much) {
                    shared[thing] = some;
                    share(thing + 1, hours - some, much - cost, joy + some * gains[thing]);
                }
            }
        }

        private void note(int joy) {
            if (joy > most) {
                most = joy;
                System.arraycopy(shared, 0, best, 0, THINGS);
            }
        }
    }

    /** What is reckoned from the bytes of the tape alone. */
    private static final class Sums {
        /** A power of two above every byte, and the number of groups of eight people. */
        private static final int ROW = 256;
        private static final int NET_ZERO = 32768;
        private static final int UNREACHED = 1000000;

        private final Tape tape;
        private final int[] first = new int[ROW];
        private final int[] second = new int[ROW];

        Sums(Tape tape) {
            this.tape = tape;
        }

        private int netAt(int p) {
            return tape.wordAt(p) - NET_ZERO;
        }

        int paidInAll(int n) {
            int total = 0;
            int paid = 0;
            for (int p = 0; p < n; p++) {
                total += netAt(p);
                paid += Math.max(0, netAt(p));
            }
            return total == 0 ? paid : IMPOSSIBLE;
        }

        /** Of each group that settles among itself one payment fewer than people is enough. */
        int payments(int n) {
            if (n < 0 || n > 8 || paidInAll(n) == IMPOSSIBLE) {
                return IMPOSSIBLE;
            }
            int all = (1 << n) - 1;
            first[0] = 0;
            second[0] = 0;
            for (int some = 1; some <= all && some < ROW; some++) {
                int most = 0;
                int net = 0;
                for (int p = 0; p < n; p++) {
                    if ((some >> p & 1) != 0) {
                        int others = some ^ 1 << p;
                        net = first[others] + netAt(p);
                        most = Math.max(most, second[others]);
                    }
                }
                first[some] = net;
                second[some] = net == 0 ? most + 1 : most;
            }
            return all < ROW ? n - second[all] : IMPOSSIBLE;
        }

        int bankRun(int n, int what) {
            for (int i = 0; i < n; i++) {
                if (tape.byteAt(i) > 16) {
                    return IMPOSSIBLE;
                }
            }
            int there = 0;
            int rounds = 0;
            for (int round = 0; round < n; round++) {
                int then = 0;
                for (int i = 0; i < n; i++) {
                    then += tape.byteAt(i) <= there ? 1 : 0;
                }
                // Who is there already came by no more than are there now, so none is lost.
                if (then > there) {
                    there = then;
                    rounds++;
                }
            }
            return what == 0 ? there : rounds;
        }

        boolean isLifeTable(int n) {
            boolean isRight = tape.byteAt(0) > 0;
            for (int age = 1; age < n; age++) {
                isRight = isRight && tape.byteAt(age) <= tape.byteAt(age - 1);
            }
            return isRight;
        }

        int ageOfMostDeaths(int n) {
            int most = -1;
            int which = 0;
            for (int age = 0; age < n; age++) {
                int later = age + 1 < n ? tape.byteAt(age + 1) : 0;
                int deaths = tape.byteAt(age) - later;
                if (deaths > most) {
                    most = deaths;
                    which = age;
                }
            }
            return which;
        }

        int expected(int n, int age, boolean isAbove) {
            int living = tape.byteAt(age);
            if (living == 0) {
                return IMPOSSIBLE;
            }
            int later = 0;
            for (int i = age + 1; i < n; i++) {
                later += tape.byteAt(i);
            }
            int divisor = commonDivisor(later, living);
            if (divisor == 0) {
                return IMPOSSIBLE;
            }
            return isAbove ? later / divisor : living / divisor;
        }

        private static int commonDivisor(int one, int other) {
            int a = one;
            int b = other;
            for (int i = 0; i < 64 && b != 0; i++) {
                int rest = a % b;
                a = b;
                b = rest;
            }
            return a;
        }

        /** Behind the other's first beat, all that can be comes within as many beats as his ticks. */
        int firstTogether() {
            int tick = tape.byteAt(0);
            int step = tape.byteAt(1);
            int otherFirst = tape.byteAt(2);
            int otherStep = tape.byteAt(3);
            if (otherStep == 0) {
                return IMPOSSIBLE;
            }
            for (int i = 0; i < 2 * ROW; i++) {
                if (tick >= otherFirst && (tick - otherFirst) % otherStep == 0) {
                    return tick;
                }
                tick += step;
            }
            return IMPOSSIBLE;
        }

        int timesTogether(int firstTick, int upTo) {
            int divisor = commonDivisor(tape.byteAt(1), tape.byteAt(3));
            if (firstTick < 0 || firstTick > upTo || divisor == 0) {
                return 0;
            }
            int between = tape.byteAt(1) / divisor * tape.byteAt(3);
            return between == 0 ? 0 : (upTo - firstTick) / between + 1;
        }

        int pulseOf(int n, int what) {
            int between = 0;
            for (int i = 1; i < n; i++) {
                int gap = tape.wordAt(i) - tape.wordAt(i - 1);
                if (gap <= 0) {
                    return NOT_RIGHT;
                }
                between = commonDivisor(gap, between);
            }
            if (between == 0) {
                return NOT_RIGHT;
            }
            int beats = (tape.wordAt(n - 1) - tape.wordAt(0)) / between + 1;
            return what == 0 ? between : beats - n;
        }

        int climb(int n, int what) {
            first[0] = 0;
            second[0] = 0;
            for (int to = 1; to < n && to < ROW; to++) {
                first[to] = UNREACHED;
                second[to] = UNREACHED;
                for (int from = Math.max(0, to - 2); from < to; from++) {
                    int cost = first[from] + costOfWay(from, to);
                    int ways = second[from] + 1;
                    if (cost < first[to] || cost == first[to] && ways < second[to]) {
                        first[to] = cost;
                        second[to] = ways;
                    }
                }
            }
            if (n < 1 || n > ROW) {
                return NONE;
            }
            return what == 0 ? first[n - 1] : second[n - 1];
        }

        private int costOfWay(int from, int to) {
            int up = tape.byteAt(to) - tape.byteAt(from);
            return 2 + (up > 0 ? 3 * up : -up);
        }

        boolean areBells(int n) {
            boolean isRight = true;
            for (int i = 0; i < n; i++) {
                isRight = isRight && tape.byteAt(i) != 0;
                for (int j = 0; j < i; j++) {
                    isRight = isRight && tape.byteAt(j) != tape.byteAt(i);
                }
            }
            return isRight;
        }

        /** No bell reaches back beyond a row, so one row that goes round is enough. */
        int fewestBlows(int n, int number) {
            first[0] = 0;
            for (int sum = 1; sum <= number; sum++) {
                int fewest = UNREACHED;
                for (int i = 0; i < n; i++) {
                    int strokes = tape.byteAt(i);
                    if (strokes <= sum) {
                        fewest = Math.min(fewest, first[sum - strokes & ROW - 1] + 1);
                    }
                }
                first[sum & ROW - 1] = fewest;
            }
            int blows = first[number & ROW - 1];
            return blows < UNREACHED ? blows : IMPOSSIBLE;
        }
    }
}
