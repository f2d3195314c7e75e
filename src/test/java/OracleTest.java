import java.util.ArrayList;
import java.util.Arrays;
import java.util.List;
import java.util.Random;

/** Long runs of drawn calls, each answer held against a second program of the same document. */
public final class OracleTest {
    private static final int RUNS = 400;
    private static final int CALLS = 512;

    /** A fault of a text, which ends the reading of it. */
    private static final class Fault extends RuntimeException {
        private static final long serialVersionUID = 1L;
        final int answer;

        Fault(int number, int place) {
            super("fault");
            answer = -1000 * number - place;
        }
    }

    /** What is divided by 0. */
    private static final class Refused extends RuntimeException {
        private static final long serialVersionUID = 1L;
    }

    private static final class Loan {
        int from;
        int to;
        int much;
        int rate;
        int daily;
        int due;

        Loan copied() {
            Loan other = new Loan();
            other.from = from;
            other.to = to;
            other.much = much;
            other.rate = rate;
            other.daily = daily;
            other.due = due;
            return other;
        }

        void oneDay() {
            due = grown();
            due -= Math.min(due, daily);
        }

        int grown() {
            long more = (long) Math.ceil(due * (long) rate / 100.0 - 1e-9);
            return (int) Math.min(9999999L, due + more);
        }
    }

    /** A tree of a law: an operator and its parts, a letter or a number. */
    private static final class Node {
        char kind;
        int number;
        List<Node> parts = new ArrayList<>();

        Node(char kind, Node... parts) {
            this.kind = kind;
            this.parts.addAll(Arrays.asList(parts));
        }
    }

    private static final class Rule {
        char kind;
        Node worth;
        Node when;
    }

    private static final class State {
        long[] beats = new long[16];
        int[] age = new int[16];
        boolean[] told = new boolean[16];
        boolean[] living = new boolean[16];
        List<Loan> loans = new ArrayList<>();
        long parish = 0;
        int day = 0;
        int x = 1;

        State copied() {
            State s = new State();
            s.beats = beats.clone();
            s.age = age.clone();
            s.told = told.clone();
            s.living = living.clone();
            for (Loan l : loans) {
                s.loans.add(l.copied());
            }
            s.parish = parish;
            s.day = day;
            s.x = x;
            return s;
        }

        int bits(boolean[] which) {
            int bits = 0;
            for (int p = 0; p < 16; p++) {
                bits += which[p] ? 1 << p : 0;
            }
            return bits;
        }
    }

    /** Reads the three languages; the place goes ahead a sign at a time. */
    private static final class Reader {
        final int[] text;
        int at = 0;

        Reader(int[] text) {
            this.text = text;
        }

        int see() {
            return at < text.length ? text[at] : -1;
        }

        boolean isOne(String of) {
            return see() >= 0 && of.indexOf(see()) >= 0;
        }

        int next(String of) {
            if (!isOne(of)) {
                throw new Fault(1, at);
            }
            return text[at++];
        }

        int number(int most) {
            int value = next("0123456789") - '0';
            for (int i = 1; isOne("0123456789"); i++) {
                if (i == most) {
                    throw new Fault(2, at);
                }
                value = value * 10 + next("0123456789") - '0';
            }
            return value;
        }

        String routine() {
            StringBuilder out = new StringBuilder();
            while (at < text.length) {
                routinePiece(out, 0);
            }
            return out.toString();
        }

        void routinePiece(StringBuilder out, int open) {
            int first = at;
            int times = isOne("23456789") ? next("23456789") - '0' : 1;
            int before = out.length();
            if (isOne("(")) {
                if (open == 2) {
                    throw new Fault(5, at);
                }
                at++;
                do {
                    routinePiece(out, open + 1);
                } while (!isOne(")"));
                at++;
            } else {
                out.append((char) next("scwrlfo"));
            }
            String once = out.substring(before);
            out.setLength(before);
            out.append(once.repeat(times));
            if (out.length() > 24) {
                throw new Fault(6, first);
            }
        }

        List<Loan> ledger(boolean[] told) {
            List<Loan> all = new ArrayList<>();
            while (true) {
                Loan l = new Loan();
                l.from = next("abcdefghijklmnop") - 'a';
                if (all.size() == 24) {
                    throw new Fault(4, at - 1);
                }
                if (!told[l.from]) {
                    throw new Fault(7, at - 1);
                }
                next(">");
                l.to = next("abcdefghijklmnop") - 'a';
                if (l.to == l.from) {
                    throw new Fault(6, at - 1);
                }
                if (!told[l.to]) {
                    throw new Fault(7, at - 1);
                }
                int first = at;
                l.much = number(6);
                if (l.much == 0) {
                    throw new Fault(3, first);
                }
                if (isOne("@")) {
                    at++;
                    l.rate = number(2);
                }
                if (isOne("/")) {
                    at++;
                    l.daily = number(4);
                }
                l.due = l.much;
                all.add(l);
                if (at == text.length) {
                    return all;
                }
                next(";");
            }
        }

        List<Rule> law() {
            List<Rule> all = new ArrayList<>();
            while (true) {
                Rule r = new Rule();
                r.kind = (char) next("pix");
                if (all.size() == 16) {
                    throw new Fault(4, at - 1);
                }
                r.worth = r.kind == 'x' ? null : sum(0);
                next("(");
                r.when = alternatives(1);
                next(")");
                all.add(r);
                if (at == text.length) {
                    return all;
                }
                next(";");
            }
        }

        Node alternatives(int open) {
            Node all = new Node('|', together(open));
            while (isOne("|")) {
                at++;
                all.parts.add(together(open));
            }
            return all;
        }

        Node together(int open) {
            Node all = new Node('&', test(open));
            while (isOne("&")) {
                at++;
                all.parts.add(test(open));
            }
            return all;
        }

        void opening(int open) {
            if (open == 6) {
                throw new Fault(5, at);
            }
            at++;
        }

        Node test(int open) {
            if (isOne("!")) {
                opening(open);
                return new Node('!', test(open + 1));
            }
            if (isOne("(")) {
                opening(open);
                Node inner = alternatives(open + 1);
                next(")");
                return inner;
            }
            Node left = sum(open);
            char sign = (char) next("<>=");
            return new Node(sign, left, sum(open));
        }

        Node sum(int open) {
            Node left = term(open);
            while (isOne("+-")) {
                char sign = (char) next("+-");
                left = new Node(sign, left, term(open));
            }
            return left;
        }

        Node term(int open) {
            Node left = factor(open);
            while (isOne("*/%")) {
                char sign = (char) next("*/%");
                left = new Node(sign, left, factor(open));
            }
            return left;
        }

        Node factor(int open) {
            if (isOne("[")) {
                opening(open);
                Node inner = sum(open + 1);
                next("]");
                return inner;
            }
            if (isOne("kdhabnmtw")) {
                return new Node((char) next("kdhabnmtw"));
            }
            Node number = new Node('#');
            number.number = number(5);
            return number;
        }
    }

    /** The second program. */
    private static final class Oracle {
        State s = new State();
        State kept = null;
        String[] routines = new String[16];
        List<Rule> rules = new ArrayList<>();
        List<Integer> tape = new ArrayList<>();

        // Who is asked, and with what.
        State city;
        int who;
        int hour;
        int others;
        int draw;

        Oracle() {
            Arrays.fill(routines, "");
        }

        boolean isTold(int p) {
            return p >= 0 && p < 16 && s.told[p];
        }

        boolean isLiving(int p) {
            return isTold(p) && s.living[p];
        }

        char does(int p, int h) {
            return h < routines[p].length() ? routines[p].charAt(h) : 's';
        }

        int[] take(int n) {
            int[] bytes = new int[n];
            for (int i = 0; i < n; i++) {
                bytes[i] = tape.get(i);
            }
            tape.clear();
            return bytes;
        }

        int value(Node n) {
            switch (n.kind) {
                case '#': return n.number;
                case 'k': return who;
                case 'd': return "scwrlfo".indexOf(does(who, Math.min(hour, 23)));
                case 'h': return hour;
                case 'a': return city.age[who] / 365;
                case 'b': return (int) (city.beats[who] / 1000);
                case 'n': return others;
                case 't': return city.day % 100;
                case 'w': return draw;
                case 'm':
                    int m = 0;
                    for (Loan l : city.loans) {
                        m += l.to == who && l.due > 0 ? 1 : 0;
                    }
                    return m;
                default:
            }
            int one = value(n.parts.get(0));
            int two = value(n.parts.get(1));
            if ((n.kind == '/' || n.kind == '%') && two == 0) {
                throw new Refused();
            }
            switch (n.kind) {
                case '+': return one + two;
                case '-': return one - two;
                case '*': return one * two;
                case '/': return one / two;
                default: return one % two;
            }
        }

        boolean holds(Node n) {
            switch (n.kind) {
                case '|':
                    for (Node part : n.parts) {
                        if (holds(part)) {
                            return true;
                        }
                    }
                    return false;
                case '&':
                    for (Node part : n.parts) {
                        if (!holds(part)) {
                            return false;
                        }
                    }
                    return true;
                case '!':
                    return !holds(n.parts.get(0));
                default:
            }
            int one = value(n.parts.get(0));
            int two = value(n.parts.get(1));
            return n.kind == '<' ? one < two : n.kind == '>' ? one > two : one == two;
        }

        Rule first(char kind) {
            for (Rule r : rules) {
                try {
                    if (r.kind == kind && holds(r.when)) {
                        return r;
                    }
                } catch (Refused e) {
                    continue;
                }
            }
            return null;
        }

        int worth(char kind, int none, int least, int most) {
            Rule r = first(kind);
            if (r == null) {
                return none;
            }
            int value;
            try {
                value = value(r.worth);
            } catch (Refused e) {
                value = 0;
            }
            return value < least ? least : value > most ? most : value;
        }

        void ask(State c, int p, int h, int n, int w) {
            city = c;
            who = p;
            hour = h;
            others = n;
            draw = w;
        }

        void oneDay(State c) {
            for (int h = 0; h < 24; h++) {
                for (int p = 0; p < 16; p++) {
                    if (!c.living[p]) {
                        continue;
                    }
                    c.x = (int) ((25173L * c.x + 13849L) % 65536L);
                    int n = 0;
                    for (int q = 0; q < 16; q++) {
                        n += q != p && c.living[q] && does(q, h) == does(p, h) ? 1 : 0;
                    }
                    ask(c, p, h, n, c.x % 10);
                    boolean dies = first('x') != null;
                    if (!dies) {
                        c.beats[p] -= 60L * worth('p', 60, 1, 255);
                        dies = c.beats[p] <= 0;
                        c.beats[p] = Math.max(0, c.beats[p]);
                    }
                    if (dies) {
                        c.living[p] = false;
                        c.parish = Math.min(999999999L, c.parish + c.beats[p]);
                        c.beats[p] = 0;
                    }
                }
            }
            for (Loan l : c.loans) {
                if (c.living[l.from] && c.living[l.to]) {
                    l.due = l.grown();
                    int paid = (int) Math.min(Math.min(l.daily, l.due), c.beats[l.to] - 1);
                    l.due -= paid;
                    c.beats[l.to] -= paid;
                    c.beats[l.from] = Math.min(999999999L, c.beats[l.from] + paid);
                }
            }
            for (int p = 0; p < 16; p++) {
                if (c.living[p]) {
                    ask(c, p, 24, 0, 0);
                    long given = Math.min(worth('i', 0, 0, 9999), c.parish);
                    given = Math.min(given, 999999999L - c.beats[p]);
                    c.beats[p] += given;
                    c.parish -= given;
                }
            }
            for (int p = 0; p < 16; p++) {
                c.age[p] += c.living[p] && c.age[p] < 99999 ? 1 : 0;
            }
            c.day++;
        }

        int pass(State c, int n) {
            int before = Integer.bitCount(c.bits(c.living));
            for (int i = 0; i < n && c.day < 9999; i++) {
                oneDay(c);
            }
            return before - Integer.bitCount(c.bits(c.living));
        }

        int person(int p, int beats, int age) {
            if (p < 0 || p > 15 || beats < 1 || beats > 999999999 || age < 0 || age > 99999) {
                return 0;
            }
            s.told[p] = true;
            s.living[p] = true;
            s.beats[p] = beats;
            s.age[p] = age;
            return 1;
        }

        int feed(int[] words) {
            if (tape.size() + 20 > 260) {
                return -1;
            }
            for (int w : words) {
                for (int i = 3; i >= 0; i--) {
                    tape.add(w >> 8 * i & 255);
                }
            }
            return tape.size();
        }

        int law(int n) {
            if (n < 1 || n > 240 || n > tape.size()) {
                return -1;
            }
            try {
                rules = new Reader(take(n)).law();
            } catch (Fault f) {
                return f.answer;
            }
            return rules.size();
        }

        int routine(int p, int n) {
            if (p < 0 || p > 15 || n < 1 || n > 60 || n > tape.size()) {
                return -1;
            }
            try {
                routines[p] = new Reader(take(n)).routine();
            } catch (Fault f) {
                return f.answer;
            }
            return routines[p].length();
        }

        int ledger(int n) {
            if (n < 1 || n > 200 || n > tape.size()) {
                return -1;
            }
            try {
                s.loans = new Reader(take(n)).ledger(s.told);
            } catch (Fault f) {
                return f.answer;
            }
            return s.loans.size();
        }

        int days(int n) {
            return n < 1 || n > 60 ? -1 : pass(s, n);
        }

        int tried(int n, int what) {
            boolean isAsked = what == 0 || what == 1 || what == 2 || what >= 100 && what < 116 && s.told[what - 100]
                || what >= 200 && what < 200 + s.loans.size();
            if (n < 1 || n > 60 || !isAsked) {
                return -1;
            }
            State c = s.copied();
            int died = pass(c, n);
            if (what == 0) {
                return died;
            }
            if (what == 1) {
                return (int) c.parish;
            }
            if (what == 2) {
                return c.bits(c.living);
            }
            return what < 200 ? (int) c.beats[what - 100] : c.loans.get(what - 200).due;
        }

        int personIs(int p, int what) {
            if (!isTold(p) || what < 0 || what > 4) {
                return -1000000000;
            }
            int net = 0;
            for (Loan l : s.loans) {
                net += l.from == p ? l.due : 0;
                net -= l.to == p ? l.due : 0;
            }
            return new int[] {(int) s.beats[p], s.age[p], s.living[p] ? 1 : 0, routines[p].length(), net}[what];
        }

        boolean hasLoan(int l) {
            return l >= 0 && l < s.loans.size();
        }

        int loanIs(int i, int what) {
            if (!hasLoan(i) || what < 0 || what > 5) {
                return -1;
            }
            Loan l = s.loans.get(i);
            return new int[] {l.from, l.to, l.much, l.rate, l.daily, l.due}[what];
        }

        int dies(int p, int n) {
            if (!isTold(p) || n < 1 || n > 60) {
                return -1;
            }
            State c = s.copied();
            for (int i = 0; i <= n; i++) {
                if (!c.living[p]) {
                    return i;
                }
                pass(c, 1);
            }
            return -2;
        }

        int costOf(int p, int h) {
            ask(s, p, h, 0, 0);
            return 60 * worth('p', 60, 1, 255);
        }

        int costs(int p, int what) {
            if (!isLiving(p) || what < 0 || what > 24) {
                return -1;
            }
            int cost = 0;
            for (int h = 0; h < 24; h++) {
                cost += what == 24 || what == h ? costOf(p, h) : 0;
            }
            return cost;
        }

        int dueAfter(int l, int n) {
            if (!hasLoan(l) || n < 0 || n > 3650) {
                return -1;
            }
            Loan loan = s.loans.get(l).copied();
            for (int i = 0; i < n; i++) {
                loan.oneDay();
            }
            return loan.due;
        }

        int paidOff(int l) {
            if (!hasLoan(l)) {
                return -1;
            }
            Loan loan = s.loans.get(l).copied();
            for (int i = 0; i <= 3650; i++) {
                if (loan.due == 0) {
                    return i;
                }
                loan.oneDay();
            }
            return -2;
        }

        int hiccups(int some, int what) {
            if ((some & ~s.bits(s.told)) != 0 || what < 0 || what > 1) {
                return -1;
            }
            boolean[] have = new boolean[16];
            for (int p = 0; p < 16; p++) {
                have[p] = s.living[p] && (some >> p & 1) == 1;
            }
            int last = 0;
            for (int h = 0; h < 1000; h++) {
                boolean[] then = have.clone();
                for (int p = 0; p < 16; p++) {
                    for (int q = 0; q < 16; q++) {
                        if (s.living[p] && have[q] && !have[p] && does(p, h % 24) == does(q, h % 24)) {
                            then[p] = true;
                            last = h + 1;
                        }
                    }
                }
                have = then;
            }
            return what == 0 ? s.bits(have) : last;
        }

        int left(int p) {
            return isLiving(p) ? (int) (s.beats[p] / costs(p, 24)) : -1;
        }

        int longest() {
            int best = -2;
            for (int p = 15; p >= 0; p--) {
                if (isLiving(p) && (best < 0 || left(p) >= left(best))) {
                    best = p;
                }
            }
            return best;
        }

        int stillest(int what) {
            if (what < 0 || what > 1) {
                return -1;
            }
            int least = Integer.MAX_VALUE;
            int which = 0;
            for (int h = 23; h >= 0; h--) {
                int cost = 0;
                for (int p = 0; p < 16; p++) {
                    cost += s.living[p] ? costOf(p, h) : 0;
                }
                if (cost <= least) {
                    least = cost;
                    which = h;
                }
            }
            return what == 0 ? which : least;
        }

        int alike(int p, int q, int what) {
            if (!isTold(p) || !isTold(q) || p == q || what < 0 || what > 2) {
                return -1;
            }
            int[] same = new int[24];
            for (int later = 0; later < 24; later++) {
                for (int h = 0; h < 24; h++) {
                    same[later] += does(q, h) == does(p, (h + later) % 24) ? 1 : 0;
                }
            }
            int best = 0;
            for (int later = 0; later < 24; later++) {
                best = same[later] > same[best] ? later : best;
            }
            return new int[] {same[0], best, same[best]}[what];
        }

        /** Every ring, from each of its people, as its length times 65536 and its bits. */
        int leastRing(int first, int last, int in) {
            int least = Integer.MAX_VALUE;
            for (Loan l : s.loans) {
                if (l.due > 0 && l.from == last) {
                    if (l.to == first) {
                        least = Math.min(least, Integer.bitCount(in) * 65536 + in);
                    } else if ((in >> l.to & 1) == 0) {
                        least = Math.min(least, leastRing(first, l.to, in | 1 << l.to));
                    }
                }
            }
            return least;
        }

        int rings(int what) {
            if (what < 0 || what > 1) {
                return -1;
            }
            int least = Integer.MAX_VALUE;
            for (int p = 0; p < 16; p++) {
                least = Math.min(least, leastRing(p, p, 1 << p));
            }
            return least == Integer.MAX_VALUE ? -2 : what == 0 ? least / 65536 : least % 65536;
        }

        /** The first who is not settled is paid by, or pays, each other one of the other sign. */
        int fewestPayments(int[] nets, int from) {
            while (from < nets.length && nets[from] == 0) {
                from++;
            }
            if (from == nets.length) {
                return 0;
            }
            int least = 100;
            for (int other = from + 1; other < nets.length; other++) {
                if (nets[other] * (long) nets[from] < 0) {
                    nets[other] += nets[from];
                    least = Math.min(least, 1 + fewestPayments(nets, from + 1));
                    nets[other] -= nets[from];
                }
            }
            return least;
        }

        int settled(int n, int what) {
            if (n < 2 || n > 8 || what < 0 || what > 1 || tape.size() < 2 * n) {
                return -1;
            }
            int[] bytes = take(2 * n);
            int[] nets = new int[n];
            int sum = 0;
            int size = 0;
            for (int i = 0; i < n; i++) {
                nets[i] = bytes[2 * i] * 256 + bytes[2 * i + 1] - 32768;
                sum += nets[i];
                size += Math.abs(nets[i]);
            }
            return sum != 0 ? -2 : what == 1 ? size / 2 : fewestPayments(nets, 0);
        }

        int joy(int n, int much, int what) {
            if (n < 1 || n > 5 || much < 0 || much > 6120 || what != 100 && (what < 0 || what >= n) || tape.size() < 2 * n) {
                return -1;
            }
            int[] bytes = take(2 * n);
            int[] best = null;
            int most = -1;
            for (int a = 24; a >= 0; a--) {
                for (int b = 24 - a; b >= 0; b--) {
                    for (int c = 24 - a - b; c >= 0; c--) {
                        for (int d = 24 - a - b - c; d >= 0; d--) {
                            int[] hours = {a, b, c, d, 24 - a - b - c - d};
                            int cost = 0;
                            int joy = 0;
                            boolean can = true;
                            for (int i = 0; i < 5; i++) {
                                can &= i < n || hours[i] == 0;
                                cost += i < n ? hours[i] * bytes[2 * i] : 0;
                                joy += i < n ? hours[i] * bytes[2 * i + 1] : 0;
                            }
                            if (can && cost <= much && joy > most) {
                                most = joy;
                                best = hours;
                            }
                        }
                    }
                }
            }
            return best == null ? -2 : what == 100 ? most : best[what];
        }

        int run(int n, int what) {
            if (n < 2 || n > 16 || what < 0 || what > 1 || tape.size() < n) {
                return -1;
            }
            int[] bytes = take(n);
            boolean[] there = new boolean[n];
            int count = 0;
            int rounds = 0;
            for (int b : bytes) {
                if (b > 16) {
                    return -2;
                }
            }
            boolean more = true;
            while (more) {
                more = false;
                int now = count;
                for (int i = 0; i < n; i++) {
                    if (!there[i] && bytes[i] <= now) {
                        there[i] = true;
                        count++;
                        more = true;
                    }
                }
                rounds += more ? 1 : 0;
            }
            return what == 0 ? count : rounds;
        }

        int table(int n, int what) {
            boolean isAsked = what == 300 || what >= 100 && what < 100 + n || what >= 200 && what < 200 + n;
            if (n < 2 || n > 30 || !isAsked || tape.size() < n) {
                return -1;
            }
            int[] lives = Arrays.copyOf(take(n), n + 1);
            for (int i = 0; i < n; i++) {
                if (i == 0 ? lives[0] == 0 : lives[i] > lives[i - 1]) {
                    return -3;
                }
            }
            if (what == 300) {
                int best = 0;
                for (int i = 0; i < n; i++) {
                    best = lives[i] - lives[i + 1] > lives[best] - lives[best + 1] ? i : best;
                }
                return best;
            }
            int age = what % 100;
            if (lives[age] == 0) {
                return -2;
            }
            int above = 0;
            for (int i = age + 1; i < n; i++) {
                above += lives[i];
            }
            int below = lives[age];
            for (int d = below; d > 1; d--) {
                if (above % d == 0 && below % d == 0) {
                    above /= d;
                    below /= d;
                }
            }
            return what < 200 ? above : below;
        }

        int atOnce(int upTo, int what) {
            if (upTo < 0 || upTo > 65535 || what < 0 || what > 1 || tape.size() < 4) {
                return -1;
            }
            int[] b = take(4);
            if (b[1] == 0 || b[3] == 0) {
                return -3;
            }
            boolean[] one = new boolean[70000];
            boolean[] two = new boolean[70000];
            for (int t = b[0]; t < one.length; t += b[1]) {
                one[t] = true;
            }
            for (int t = b[2]; t < two.length; t += b[3]) {
                two[t] = true;
            }
            int first = -2;
            int count = 0;
            for (int t = one.length - 1; t >= 0; t--) {
                if (one[t] && two[t]) {
                    first = t;
                    count += t <= upTo ? 1 : 0;
                }
            }
            return what == 0 ? first : count;
        }

        int pulse(int n, int what) {
            if (n < 2 || n > 20 || what < 0 || what > 1 || tape.size() < 2 * n) {
                return -1;
            }
            int[] bytes = take(2 * n);
            int[] ticks = new int[n];
            for (int i = 0; i < n; i++) {
                ticks[i] = bytes[2 * i] * 256 + bytes[2 * i + 1];
                if (i > 0 && ticks[i] <= ticks[i - 1]) {
                    return -3;
                }
            }
            for (int between = 65535; between > 0; between--) {
                boolean all = true;
                for (int t : ticks) {
                    all &= (t - ticks[0]) % between == 0;
                }
                if (all) {
                    return what == 0 ? between : (ticks[n - 1] - ticks[0]) / between - n + 1;
                }
            }
            return 0;
        }

        /** All ways up: the least cost times 100 and the ways of it. */
        int climb(int[] heights, int at) {
            if (at == heights.length - 1) {
                return 0;
            }
            int least = Integer.MAX_VALUE;
            for (int to = at + 1; to <= at + 2 && to < heights.length; to++) {
                int up = heights[to] - heights[at];
                int cost = 2 + (up > 0 ? 3 * up : Math.abs(up));
                least = Math.min(least, cost * 100 + 1 + climb(heights, to));
            }
            return least;
        }

        int stairs(int n, int what) {
            if (n < 2 || n > 20 || what < 0 || what > 1 || tape.size() < n) {
                return -1;
            }
            int least = climb(take(n), 0);
            return what == 0 ? least / 100 : least % 100;
        }

        int bells(int n, int number) {
            if (n < 1 || n > 5 || number < 1 || number > 9999 || tape.size() < n) {
                return -1;
            }
            int[] bells = take(n);
            for (int i = 0; i < n; i++) {
                for (int j = 0; j < n; j++) {
                    if (bells[i] == 0 || i != j && bells[i] == bells[j]) {
                        return -3;
                    }
                }
            }
            int[] blows = new int[number + 1];
            for (int sum = 1; sum <= number; sum++) {
                blows[sum] = 99999;
                for (int bell : bells) {
                    blows[sum] = bell <= sum ? Math.min(blows[sum], blows[sum - bell] + 1) : blows[sum];
                }
            }
            return blows[number] < 99999 ? blows[number] : -2;
        }

        int seed(int x) {
            if (x < 0 || x > 65535) {
                return 0;
            }
            s.x = x;
            return 1;
        }

        int keep() {
            kept = s.copied();
            return s.day;
        }

        int undo() {
            if (kept == null) {
                return 0;
            }
            s = kept.copied();
            return 1;
        }

        int check(int n) {
            if (n < 0 || n > 16 || tape.size() < n) {
                return -2;
            }
            int[] bytes = take(n);
            for (int p = 0; p < n; p++) {
                if (bytes[p] != (!s.told[p] ? 255 : s.living[p] ? 1 : 0)) {
                    return p;
                }
            }
            return -1;
        }

        int count(int what) {
            if (what < 0 || what > 8) {
                return -1;
            }
            int richest = -2;
            for (int p = 0; p < 16; p++) {
                if (s.told[p] && (richest < 0 || s.beats[p] > s.beats[richest])) {
                    richest = p;
                }
            }
            return new int[] {s.day, s.bits(s.told), s.bits(s.living), (int) s.parish, s.loans.size(), rules.size(),
                tape.size(), s.x, richest}[what];
        }
    }

    private final Random random;
    private final int run;
    private final StruckBeats x = new StruckBeats();
    private final Oracle o = new Oracle();
    private final List<String> calls = new ArrayList<>();
    private int wrong = 0;

    private OracleTest(int run) {
        this.run = run;
        random = new Random(run);
    }

    private int upTo(int n) {
        return random.nextInt(n + 1);
    }

    /** Mostly within bounds, now and then just outside of them. */
    private int within(int least, int most) {
        int kind = random.nextInt(40);
        if (kind == 0) {
            return least - 1;
        }
        if (kind == 1) {
            return most + 1;
        }
        if (kind == 2) {
            return least;
        }
        return kind == 3 ? most : least + random.nextInt(most - least + 1);
    }

    private String any(String of) {
        int i = random.nextInt(of.length());
        return of.substring(i, i + 1);
    }

    /** Now and then a sign too few, too many, or another one. */
    private String perhapsBroken(String text, String signs) {
        if (random.nextInt(3) != 0 || text.isEmpty()) {
            return text;
        }
        int at = random.nextInt(text.length());
        switch (random.nextInt(4)) {
            case 0: return text.substring(0, at) + text.substring(at + 1);
            case 1: return text.substring(0, at) + any(signs) + text.substring(at);
            case 2: return text.substring(0, at) + any(signs) + text.substring(at + 1);
            default: return text.substring(0, at + 1);
        }
    }

    private String routineText(int open) {
        StringBuilder text = new StringBuilder();
        int pieces = 1 + random.nextInt(open == 0 ? 6 : 3);
        for (int i = 0; i < pieces; i++) {
            if (random.nextInt(3) == 0) {
                text.append(2 + random.nextInt(random.nextInt(4) == 0 ? 8 : 3));
            }
            if (open < 3 && random.nextInt(open == 2 ? 30 : 4) == 0) {
                text.append('(').append(routineText(open + 1)).append(')');
            } else {
                text.append(any("scwrlfo"));
            }
        }
        return text.toString();
    }

    /** Nearly always one who is told, and not the one given. */
    private int lends(int most, int not) {
        int p = upTo(most);
        for (int i = 0; i < 60 && (p == not || !o.isTold(p)) && random.nextInt(400) != 0; i++) {
            p = upTo(i < 40 ? most : 15);
        }
        return p;
    }

    /** Mostly one who is told. */
    private int someone() {
        int p = within(0, 15);
        return o.isTold(p) || random.nextInt(5) == 0 ? p : lends(15, -1);
    }

    private String ledgerText() {
        StringBuilder text = new StringBuilder();
        int loans = random.nextInt(8) == 0 ? 22 + upTo(4) : 1 + upTo(9);
        int people = 3 + upTo(12);
        boolean isUpward = random.nextInt(3) == 0;
        for (int i = 0; i < loans; i++) {
            int from = lends(people, -1);
            int to = lends(people, from);
            // Loans that mostly go up have few rings, and long ones.
            boolean isTurned = isUpward && from > to && random.nextInt(12) != 0;
            text.append(i > 0 ? ";" : "").append((char) ('a' + (isTurned ? to : from)));
            text.append('>').append((char) ('a' + (isTurned ? from : to)));
            text.append(random.nextInt(3) == 0 ? 1 + upTo(20) : loans > 20 ? 1 + upTo(8) : 1 + upTo(200000));
            text.append(random.nextInt(2) == 0 && loans < 20 ? "@" + upTo(random.nextInt(2) == 0 ? 99 : 3) : "");
            text.append(random.nextInt(2) == 0 && loans < 20 ? "/" + upTo(9999) : "");
        }
        return text.toString();
    }

    private String sumText(int open) {
        StringBuilder text = new StringBuilder(factorText(open));
        while (random.nextInt(3) == 0) {
            text.append(any("+-*/%")).append(factorText(open));
        }
        return text.toString();
    }

    private String factorText(int open) {
        if (random.nextInt(8) == 0 && open < 8) {
            return "[" + sumText(open + 1) + "]";
        }
        if (random.nextInt(2) == 0) {
            return any("kdhabnmtw");
        }
        return String.valueOf(upTo(random.nextInt(6) == 0 ? 99999 : 9));
    }

    private String caseText(int open) {
        StringBuilder text = new StringBuilder(testText(open));
        while (random.nextInt(3) == 0) {
            text.append(any("&|")).append(testText(open));
        }
        return text.toString();
    }

    private String testText(int open) {
        int kind = random.nextInt(8);
        if (kind == 0 && open < 8) {
            return "!" + testText(open + 1);
        }
        if (kind == 1 && open < 8) {
            return "(" + caseText(open + 1) + ")";
        }
        return sumText(open) + any("<>=") + sumText(open);
    }

    private String lawText() {
        StringBuilder text = new StringBuilder();
        int rules = random.nextInt(10) == 0 ? 15 + upTo(3) : 1 + upTo(6);
        for (int i = 0; i < rules; i++) {
            String kind = any("ppppiix");
            text.append(i > 0 ? ";" : "").append(kind);
            if (rules > 9) {
                text.append(kind.equals("x") ? "(0=h)" : "9(h=" + i + ")");
            } else if (kind.equals("x")) {
                // Rare deaths, so that runs are not of the dead alone.
                text.append("(b%97=0&").append(caseText(1)).append(")");
            } else {
                text.append(sumText(0)).append('(').append(caseText(1)).append(')');
            }
        }
        return text.toString();
    }

    private void same(String call, int got, int want) {
        calls.add(call + " = " + want);
        if (got != want && wrong++ == 0) {
            System.out.println("run " + run + ": " + call + " answered " + got + ", due is " + want);
            for (int i = Math.max(0, calls.size() - 40); i < calls.size(); i++) {
                System.out.println("    " + calls.get(i));
            }
        }
    }

    private void feed(int... bytes) {
        for (int at = 0; at < bytes.length; at += 20) {
            int[] w = new int[5];
            for (int i = 0; i < 20; i++) {
                w[i / 4] = w[i / 4] << 8 | (at + i < bytes.length ? bytes[at + i] & 255 : random.nextInt(256));
            }
            same("feed " + Arrays.toString(w), x.feed(w[0], w[1], w[2], w[3], w[4]), o.feed(w));
        }
    }

    private int feedText(String text) {
        int[] bytes = new int[text.length()];
        for (int i = 0; i < bytes.length; i++) {
            bytes[i] = text.charAt(i);
        }
        if (o.tape.size() > 0 && random.nextInt(8) != 0) {
            same("check(0)", x.check(0), o.check(0));
        }
        feed(bytes);
        return random.nextInt(30) == 0 ? text.length() + upTo(3) - 1 : text.length();
    }

    private int feedBytes(int n, int most) {
        int[] bytes = new int[Math.max(0, n)];
        for (int i = 0; i < bytes.length; i++) {
            bytes[i] = upTo(most);
        }
        if (o.tape.size() > 0 && random.nextInt(20) != 0) {
            same("check(0)", x.check(0), o.check(0));
        }
        feed(bytes);
        return n;
    }

    private void texts() {
        int p = within(0, 15);
        switch (random.nextInt(4)) {
            case 0: {
                int n = feedText(perhapsBroken(routineText(0), "scwrlfo0123456789()x "));
                same("routine(" + p + ", " + n + ")", x.routine(p, n), o.routine(p, n));
                break;
            }
            case 1: {
                int n = feedText(perhapsBroken(ledgerText(), "abcp>@/;0123456789q"));
                same("ledger(" + n + ")", x.ledger(n), o.ledger(n));
                break;
            }
            case 2: {
                String text = perhapsBroken(lawText(), "pixkdhabnmtw0123456789()[]!&|<>=+-*/%; ");
                int n = feedText(text);
                same("law(" + n + ") " + text, x.law(n), o.law(n));
                break;
            }
            default: {
                int beats = random.nextInt(3) == 0 ? within(1, 999999999) : within(1, 900000);
                int age = within(0, 99999);
                same("person(" + p + ", " + beats + ", " + age + ")", x.person(p, beats, age) ? 1 : 0, o.person(p, beats, age));
            }
        }
    }

    private void ofThePeople() {
        int p = someone();
        int l = within(0, Math.max(0, o.s.loans.size() - 1));
        int two = within(0, 1);
        switch (random.nextInt(14)) {
            case 0: {
                int n = within(1, random.nextInt(4) == 0 ? 60 : 2);
                same("days(" + n + ")", x.days(n), o.days(n));
                break;
            }
            case 1: {
                int n = within(1, random.nextInt(4) == 0 ? 60 : 2);
                int what = new int[] {within(0, 2), 100 + p, 200 + l}[random.nextInt(3)];
                same("tried(" + n + ", " + what + ")", x.tried(n, what), o.tried(n, what));
                break;
            }
            case 2: {
                int what = within(0, 4);
                same("personIs(" + p + ", " + what + ")", x.personIs(p, what), o.personIs(p, what));
                break;
            }
            case 3: {
                int what = within(0, 5);
                same("loanIs(" + l + ", " + what + ")", x.loanIs(l, what), o.loanIs(l, what));
                break;
            }
            case 4: {
                int n = within(1, random.nextInt(4) == 0 ? 60 : 5);
                same("dies(" + p + ", " + n + ")", x.dies(p, n), o.dies(p, n));
                break;
            }
            case 5: {
                int what = within(0, 24);
                same("costs(" + p + ", " + what + ")", x.costs(p, what), o.costs(p, what));
                break;
            }
            case 6:
                same("paidOff(" + l + ")", x.paidOff(l), o.paidOff(l));
                break;
            case 7: {
                int n = within(0, random.nextInt(4) == 0 ? 3650 : 30);
                same("dueAfter(" + l + ", " + n + ")", x.dueAfter(l, n), o.dueAfter(l, n));
                break;
            }
            case 8: {
                int some = random.nextInt(6) == 0 ? random.nextInt() : random.nextInt(65536) & o.s.bits(o.s.told);
                some &= random.nextInt(3) == 0 ? -1 : random.nextInt(65536) & random.nextInt(65536);
                same("hiccups(" + some + ", " + two + ")", x.hiccups(some, two), o.hiccups(some, two));
                break;
            }
            case 9:
                same("left(" + p + ")", x.left(p), o.left(p));
                break;
            case 10:
                same("longest()", x.longest(), o.longest());
                break;
            case 11:
                same("stillest(" + two + ")", x.stillest(two), o.stillest(two));
                break;
            case 12: {
                int q = someone();
                int what = within(0, 2);
                same("alike(" + p + ", " + q + ", " + what + ")", x.alike(p, q, what), o.alike(p, q, what));
                break;
            }
            default:
                same("rings(" + two + ")", x.rings(two), o.rings(two));
        }
    }

    private void ofTheTape() {
        int what = within(0, 1);
        switch (random.nextInt(8)) {
            case 0: {
                int n = feedNets();
                same("settled(" + n + ", " + what + ")", x.settled(n, what), o.settled(n, what));
                break;
            }
            case 1: {
                int n = within(1, 5);
                feedBytes(2 * n, random.nextInt(3) == 0 ? 255 : 9);
                int much = random.nextInt(2) == 0 ? within(0, 6120) : within(0, 250);
                int thing = random.nextInt(2) == 0 ? 100 : within(0, Math.max(0, n - 1));
                same("joy(" + n + ", " + much + ", " + thing + ")", x.joy(n, much, thing), o.joy(n, much, thing));
                break;
            }
            case 2: {
                int n = feedBytes(within(2, 16), random.nextInt(9) == 0 ? 17 : upTo(16));
                same("run(" + n + ", " + what + ")", x.run(n, what), o.run(n, what));
                break;
            }
            case 3: {
                int n = feedTable();
                int asked = new int[] {100, 200, 300}[random.nextInt(3)];
                asked += asked == 300 ? within(0, 0) : within(0, Math.max(0, n - 1));
                same("table(" + n + ", " + asked + ")", x.table(n, asked), o.table(n, asked));
                break;
            }
            case 4: {
                feedBytes(4, random.nextInt(2) == 0 ? 255 : 12);
                int upTo = random.nextInt(2) == 0 ? within(0, 65535) : within(0, 300);
                same("atOnce(" + upTo + ", " + what + ")", x.atOnce(upTo, what), o.atOnce(upTo, what));
                break;
            }
            case 5: {
                int n = feedTicks();
                same("pulse(" + n + ", " + what + ")", x.pulse(n, what), o.pulse(n, what));
                break;
            }
            case 6: {
                int n = feedBytes(within(2, 20), random.nextInt(2) == 0 ? 255 : upTo(6));
                same("stairs(" + n + ", " + what + ")", x.stairs(n, what), o.stairs(n, what));
                break;
            }
            default: {
                int n = feedBytes(within(1, 5), random.nextInt(2) == 0 ? 255 : 20);
                int number = random.nextInt(2) == 0 ? within(1, 9999) : within(1, 60);
                same("bells(" + n + ", " + number + ")", x.bells(n, number), o.bells(n, number));
            }
        }
    }

    private int feedNets() {
        int n = within(2, 8);
        int[] bytes = new int[2 * n];
        int sum = 0;
        int most = random.nextInt(3) == 0 ? 4000 : 1 + upTo(5);
        for (int i = 0; i < n; i++) {
            int net = upTo(2 * most) - most;
            if (i == n - 1 && random.nextInt(6) != 0) {
                net = -sum;
            }
            sum += net;
            bytes[2 * i] = net + 32768 >> 8 & 255;
            bytes[2 * i + 1] = net & 255;
        }
        feed(bytes);
        return n;
    }

    private int feedTable() {
        int n = within(2, 30);
        int[] bytes = new int[n];
        int lives = random.nextInt(3) == 0 ? 255 : upTo(20);
        for (int i = 0; i < n; i++) {
            bytes[i] = Math.max(0, lives);
            lives -= upTo(1 + lives / 4) - (random.nextInt(60) == 0 ? 9 : 0);
        }
        feed(bytes);
        return n;
    }

    private int feedTicks() {
        int n = within(2, 20);
        int[] bytes = new int[2 * n];
        int step = 1 + upTo(60);
        int tick = upTo(300);
        for (int i = 0; i < n; i++) {
            bytes[2 * i] = tick >> 8;
            bytes[2 * i + 1] = tick & 255;
            tick += step * (random.nextInt(40) == 0 ? 0 : 1 + upTo(20));
        }
        feed(bytes);
        return n;
    }

    private void ofTheCity() {
        switch (random.nextInt(4)) {
            case 0: {
                int seed = within(0, 65535);
                same("seed(" + seed + ")", x.seed(seed) ? 1 : 0, o.seed(seed));
                break;
            }
            case 1:
                same("keep()", x.keep(), o.keep());
                break;
            case 2:
                same("undo()", x.undo() ? 1 : 0, o.undo());
                break;
            default: {
                int[] bytes = new int[16];
                for (int p = 0; p < 16; p++) {
                    bytes[p] = o.isLiving(p) ? 1 : o.isTold(p) ? 0 : 255;
                }
                bytes[upTo(15)] = random.nextInt(3) == 0 ? upTo(255) : bytes[0];
                feed(bytes);
                int n = within(0, 16);
                same("check(" + n + ")", x.check(n), o.check(n));
            }
        }
    }

    private int runs() {
        for (int p = 0; p < 16; p++) {
            if (random.nextInt(3) != 0) {
                int beats = 100000 + upTo(9000000);
                same("person(" + p + ", " + beats + ", 0)", x.person(p, beats, 0) ? 1 : 0, o.person(p, beats, 0));
            }
        }
        // Beyond 512 calls the answers are free: one piece here has no more than 30, and counts fill up the rest.
        while (calls.size() < CALLS - 30 && wrong == 0) {
            int kind = random.nextInt(20);
            if (kind < 6) {
                texts();
            } else if (kind < 13) {
                ofThePeople();
            } else if (kind < 18) {
                ofTheTape();
            } else {
                ofTheCity();
            }
            if (random.nextInt(4) == 0) {
                int what = within(0, 8);
                same("count(" + what + ")", x.count(what), o.count(what));
            }
        }
        for (int what = 0; calls.size() < CALLS && wrong == 0; what = (what + 1) % 9) {
            same("count(" + what + ")", x.count(what), o.count(what));
        }
        return wrong;
    }

    public static void main(String[] args) {
        int wrong = 0;
        int calls = 0;
        int runs = args.length > 0 ? Integer.parseInt(args[0]) : RUNS;
        for (int run = 0; run < runs; run++) {
            OracleTest test = new OracleTest(run);
            wrong += test.runs() > 0 ? 1 : 0;
            calls += test.calls.size();
        }
        System.out.println(runs + " runs, " + calls + " calls, " + wrong + " runs went wrong");
        if (wrong != 0) {
            System.exit(1);
        }
    }
}
