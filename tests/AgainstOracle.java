import java.util.ArrayList;
import java.util.Arrays;
import java.util.HashMap;
import java.util.HashSet;
import java.util.List;
import java.util.Map;
import java.util.Set;

/**
 * Long runs of made-up calls, each answered by the program and by a second, slow reading of the
 * document: minute by minute, all orders, all ways, the grammar by an Earley recogniser.
 */
public final class AgainstOracle {
    private static final int NONE = -1;
    private static final int NOTHING = -1000000;
    private static long seed;
    private static int wrong = 0;
    private static long asked = 0;

    private static int below(int n) {
        seed = seed * 6364136223846793005L + 1442695040888963407L;
        return (int) ((seed >>> 33) % n);
    }

    private static int from(int least, int most) {
        return least + below(most - least + 1);
    }

    /** Mostly within, sometimes at an edge, sometimes just outside or far away. */
    private static int about(int least, int most) {
        switch (below(24)) {
            case 0: return least;
            case 1: return most;
            case 2: return below(3) == 0 ? least - 1 : least;
            case 3: return below(3) == 0 ? most + 1 : most;
            case 4: return below(6) == 0 ? Integer.MAX_VALUE : from(least, most);
            case 5: return below(6) == 0 ? Integer.MIN_VALUE : from(least, most);
            default: return from(least, most);
        }
    }

    public static void main(String[] args) {
        int runs = args.length > 0 ? Integer.parseInt(args[0]) : 400;
        int first = args.length > 1 ? Integer.parseInt(args[1]) : 1;
        for (int run = first; run < first + runs && wrong < 20; run++) {
            seed = run * 7919L;
            below(2);
            new Run(run).go();
        }
        System.out.println(wrong == 0 ? asked + " answers as the oracle's" : wrong + " answers unlike the oracle's");
        if (wrong != 0) {
            System.exit(1);
        }
    }

    private static final class Run {
        private final int run;
        private final WeekBoats x = new WeekBoats();
        private final Oracle o = new Oracle();
        private final StringBuilder told = new StringBuilder();
        private int calls = 0;

        Run(int run) {
            this.run = run;
        }

        private void due(String call, long got, long want) {
            asked++;
            calls++;
            told.append(call).append(" = ").append(want).append('\n');
            if (got != want) {
                wrong++;
                System.out.println("run " + run + ": " + call + " answered " + got + ", due is " + want);
                if (wrong == 1) {
                    System.out.println(told);
                }
            }
        }

        private static long one(boolean b) {
            return b ? 1 : 0;
        }

        void go() {
            int points = from(2, 16);
            for (int i = 0; i < points - 1; i++) {
                stretch(i, from(0, 3), from(0, 3), from(1, 30));
            }
            int boats = below(7);
            for (int i = 0; i < boats; i++) {
                boat(from(2, 12), from(0, 99), below(points), from(0, 60));
            }
            feedText(below(4) == 0 ? "" : Texts.valid());
            // Behind its 512th call an object may answer anything; one round makes fewer than 60.
            while (calls < 450) {
                oneCall(points);
            }
        }

        private void oneCall(int points) {
            switch (below(40)) {
                case 0: stretch(about(0, 14), about(0, 9), about(0, 9), about(1, 99)); break;
                case 1: case 2: water(); break;
                case 3: stoppage(); break;
                case 4: boat(about(2, 12), about(0, 99), about(0, 15), about(0, 60)); break;
                case 5: feedText(Texts.valid()); break;
                case 6: case 7: feedText(Texts.spoilt()); break;
                case 8: tape(); break;
                case 9: open(); break;
                case 10: case 11: comes(points); break;
                case 12: maybe(points); break;
                case 13: harm(points); break;
                case 14: case 15: trip(points); break;
                case 16: back(); break;
                case 17: rungAndLate(); break;
                case 18: pump(); break;
                case 19: pumped(points); break;
                case 20: enough(points); break;
                case 21: case 22: log(points); break;
                case 23: could(points); break;
                case 24: whose(points); break;
                case 25: tonight(); break;
                case 26: queue(); break;
                case 27: lock(); break;
                case 28: booking(points); break;
                case 29: given(); break;
                case 30: more(points); break;
                case 31: gas(); break;
                case 32: dock(); break;
                case 33: job(); break;
                case 34: turned(); break;
                case 35: weight(); vans(); break;
                case 36: call(); break;
                case 37: taken(); break;
                case 38: rain(); break;
                default: money(); break;
            }
        }

        private int aBoat() {
            return below(12) == 0 ? about(0, 9) : o.boats.isEmpty() ? 0 : below(o.boats.size());
        }

        private int aPoint(int points) {
            return below(12) == 0 ? about(0, 15) : below(points);
        }

        private int aTime() {
            return below(3) == 0 ? about(0, 20159) : from(0, 13) * 1440 + from(6, 21) * 60 + below(60);
        }

        private int near(int time, int most) {
            return below(20) == 0 ? about(0, 20159) : time + below(most);
        }

        private void stretch(int i, int miles, int locks, int road) {
            due("stretch(" + i + ", " + miles + ", " + locks + ", " + road + ")",
                one(x.stretch(i, miles, locks, road)), one(o.stretch(i, miles, locks, road)));
        }

        private void water() {
            int v = about(0, 999);
            due("water(" + v + ")", one(x.water(v)), one(o.water(v)));
        }

        private void stoppage() {
            int i = below(4) == 0 ? -1 : about(0, 14);
            int from = about(0, 13);
            int to = below(5) == 0 ? about(0, 13) : from + below(3);
            due("stoppage(" + i + ", " + from + ", " + to + ")", x.stoppage(i, from, to), o.stoppage(i, from, to));
        }

        private void boat(int berths, int age, int home, int taught) {
            due("boat(" + berths + ", " + age + ", " + home + ", " + taught + ")",
                x.boat(berths, age, home, taught), o.boat(berths, age, home, taught));
        }

        private void feedText(String text) {
            for (int i = 0; i < text.length() && i < 500; i += 20) {
                feed20(text, i);
            }
            int n = Math.min(text.length(), 500);
            due("end(" + n + ") // " + text, one(x.end(n)), one(o.end(n)));
            rules();
        }

        private void rules() {
            due("rules()", x.rules(), o.rules());
            due("fault(0)", x.fault(0), o.fault[0]);
            due("fault(1)", x.fault(1), o.fault[1]);
            due("fault(2)", x.fault(2), NONE);
        }

        private void feed20(String text, int at) {
            int[] n = new int[5];
            for (int i = 0; i < 20; i++) {
                int c = at + i < text.length() ? text.charAt(at + i) : 32;
                n[i / 4] = n[i / 4] << 8 | c & 255;
            }
            due("feed(" + n[0] + ", " + n[1] + ", " + n[2] + ", " + n[3] + ", " + n[4] + ")",
                x.feed(n[0], n[1], n[2], n[3], n[4]), o.feed(n));
        }

        private void tape() {
            String text = Texts.valid();
            for (int i = 0; i < below(30); i++) {
                feed20(text, below(Math.max(1, text.length())));
            }
            int n = about(0, 500);
            due("end(" + n + ")", one(x.end(n)), one(o.end(n)));
            if (below(2) == 0) {
                rules();
            } else {
                due("end(0)", one(x.end(0)), one(o.end(0)));
            }
        }

        private void open() {
            int day = about(0, 13);
            int what = about(0, 1);
            due("open(" + day + ", " + what + ")", x.open(day, what), o.open(day, what));
        }

        private void comes(int points) {
            int b = aBoat();
            int f = aPoint(points);
            int t = aPoint(points);
            int time = aTime();
            due("comes(" + b + ", " + f + ", " + t + ", " + time + ")", x.comes(b, f, t, time), o.comes(b, f, t, time));
        }

        private void maybe(int points) {
            int b = aBoat();
            int p = aPoint(points);
            int since = aTime();
            int time = near(since, 3000);
            due("maybe(" + b + ", " + p + ", " + since + ", " + time + ")",
                x.maybe(b, p, since, time), o.maybe(b, p, since, time));
        }

        private void harm(int points) {
            int b = aBoat();
            int f = aPoint(points);
            int t = aPoint(points);
            int time = aTime();
            due("harm(" + b + ", " + f + ", " + t + ", " + time + ")", x.harm(b, f, t, time), o.harm(b, f, t, time));
        }

        private void trip(int points) {
            int b = aBoat();
            int f = aPoint(points);
            int t = aPoint(points);
            int time = aTime();
            int d = near(time, 3000) - (below(10) == 0 ? 20 : 0);
            due("trip(" + b + ", " + f + ", " + t + ", " + time + ", " + d + ")",
                x.trip(b, f, t, time, d), o.trip(b, f, t, time, d));
        }

        private int aTrip() {
            return o.trips.isEmpty() || below(8) == 0 ? about(0, 19) : below(o.trips.size());
        }

        private void back() {
            int k = aTrip();
            int what = about(0, 1);
            due("back(" + k + ", " + what + ")", x.back(k, what), o.back(k, what));
        }

        private void rungAndLate() {
            due("rung()", x.rung(), o.rung());
            int k = below(3) == 0 ? -1 : aTrip();
            due("late(" + k + ")", x.late(k), o.late(k));
        }

        private void pump() {
            int p = about(0, 15);
            boolean is = below(4) != 0;
            due("pump(" + p + ", " + is + ")", one(x.pump(p, is)), one(o.pump(p, is)));
        }

        private void pumped(int points) {
            int b = aBoat();
            int p = aPoint(points);
            int time = aTime();
            int since = below(3) == 0 ? about(0, 20159) : Math.max(0, time - 10080 + from(-600, 300));
            int what = about(0, 2);
            due("pumped(" + b + ", " + p + ", " + time + ", " + since + ", " + what + ")",
                x.pumped(b, p, time, since, what), o.pumped(b, p, time, since, what));
            int minute = o.pumped(b, p, time, since, 1);
            if (minute - 10080 >= 0 && minute - 10080 <= time) {
                int just = minute - 10080 - below(2);
                due("pumped(" + b + ", " + p + ", " + time + ", " + just + ", 2)",
                    x.pumped(b, p, time, just, 2), o.pumped(b, p, time, just, 2));
            }
        }

        private void enough(int points) {
            int b = aBoat();
            int f = aPoint(points);
            int t = aPoint(points);
            int time = aTime();
            int come = o.comes(b, f, t, time);
            int d = come != NONE && below(4) != 0 ? come + from(-30, 30) : near(time, 2000);
            due("enough(" + b + ", " + f + ", " + t + ", " + time + ", " + d + ")",
                x.enough(b, f, t, time, d), o.enough(b, f, t, time, d));
        }

        private void log(int points) {
            int b = aBoat();
            int p = aPoint(points);
            int last = b >= 0 && b < o.boats.size() && !o.logs.get(b).isEmpty()
                ? o.logs.get(b).get(o.logs.get(b).size() - 1)[1] : 400;
            int time = below(10) == 0 ? aTime() : last + from(-1, 1500);
            due("log(" + b + ", " + p + ", " + time + ")", x.log(b, p, time), o.log(b, p, time));
        }

        private int[] span() {
            int f = below(2) == 0 ? aTime() : below(5000);
            int t = below(30) == 0 ? about(0, 20159) : f + below(200) - (below(20) == 0 ? 10 : 0);
            return new int[] {f, t};
        }

        private void could(int points) {
            int b = aBoat();
            int p = aPoint(points);
            int[] s = span();
            due("could(" + b + ", " + p + ", " + s[0] + ", " + s[1] + ")",
                x.could(b, p, s[0], s[1]), o.could(b, p, s[0], s[1]));
        }

        private void whose(int points) {
            int p = aPoint(points);
            int[] s = span();
            int what = about(0, 1);
            due("whose(" + p + ", " + s[0] + ", " + s[1] + ", " + what + ")",
                x.whose(p, s[0], s[1], what), o.whose(p, s[0], s[1], what));
        }

        private void tonight() {
            int time = below(2) == 0 ? aTime() : below(4000);
            int what = about(0, 17);
            due("tonight(" + time + ", " + what + ")", x.tonight(time, what), o.tonight(time, what));
        }

        private void queue() {
            for (int n = below(9); n >= 0; n--) {
                int way = below(14) == 0 ? -1 : about(0, 1);
                int last = o.queue.isEmpty() ? 0 : o.queue.get(o.queue.size() - 1)[0];
                int minute = below(12) == 0 ? about(0, 9999) : last + from(0, 12);
                due("queue(" + minute + ", " + way + ")", x.queue(minute, way), o.lockQueue(minute, way));
            }
            lock();
        }

        private void lock() {
            for (int what = 0; what < 4; what++) {
                due("lock(" + what + ")", x.lock(what), o.lock(what));
            }
            for (int i = 10; i <= 10 + o.queue.size(); i++) {
                due("lock(" + i + ")", x.lock(i), o.lock(i));
            }
            int what = about(4, 9);
            due("lock(" + what + ")", x.lock(what), o.lock(what));
        }

        private void booking(int points) {
            for (int n = below(3); n >= 0; n--) {
                int f = below(2) == 0 ? aPoint(points) : below(2);
                int t = below(2) == 0 ? aPoint(points) : f;
                int week = below(4) == 0 ? about(0, 9) : below(3);
                int berths = below(3) == 0 ? about(2, 12) : from(2, 6);
                due("booking(" + f + ", " + t + ", " + week + ", " + berths + ")",
                    x.booking(f, t, week, berths), o.booking(f, t, week, berths));
            }
        }

        private void given() {
            int k = about(1, 4);
            due("given(" + k + ", 0)", x.given(k, 0), o.given(k, 0));
            due("given(" + k + ", 1)", x.given(k, 1), o.given(k, 1));
            for (int i = 9; i <= 10 + o.bookings.size(); i++) {
                due("given(" + k + ", " + i + ")", x.given(k, i), o.given(k, i));
            }
            int what = about(2, 9);
            due("given(" + k + ", " + what + ")", x.given(k, what), o.given(k, what));
        }

        private void more(int points) {
            int k = about(1, 3);
            int berths = about(2, 12);
            int home = aPoint(points);
            due("more(" + k + ", " + berths + ", " + home + ")", x.more(k, berths, home), o.more(k, berths, home));
        }

        private void gas() {
            for (int n = below(4); n >= 0; n--) {
                int b = below(o.boats.size() + 2);
                int days = below(8) == 0 ? 0 : about(1, 60);
                int date = below(4) == 0 ? about(0, 999) : below(200);
                due("gas(" + b + ", " + date + ", " + days + ")", one(x.gas(b, date, days)), one(o.gas(b, date, days)));
            }
        }

        private void dock() {
            for (int i = -1; i < 19; i++) {
                due("dock(" + i + ")", x.dock(i), o.dock(i));
            }
        }

        private void job() {
            for (int n = below(4); n >= 0; n--) {
                int m = below(12) == 0 ? 0 : about(1, 300);
                due("job(" + m + ")", x.job(m), o.job(m));
            }
        }

        private void turned() {
            int hands = about(1, 3);
            for (int what = -1; what < 20; what++) {
                due("turned(" + hands + ", " + what + ")", x.turned(hands, what), o.turned(hands, what));
            }
        }

        private void weight() {
            int p = about(0, 15);
            int v = below(3) == 0 ? 0 : about(0, 99);
            due("weight(" + p + ", " + v + ")", one(x.weight(p, v)), one(o.setWeight(p, v)));
        }

        private void vans() {
            int what = below(3) == 0 ? about(0, 2) : below(2) == 0 ? about(100, 115) : about(200, 215);
            due("van(" + what + ")", x.van(what), o.van(what));
            what = about(0, 1);
            due("vans(" + what + ")", x.vans(what), o.vans(what));
        }

        private void call() {
            for (int n = below(4); n >= 0; n--) {
                int last = o.calls.isEmpty() ? 0 : o.calls.get(o.calls.size() - 1)[0];
                int minute = below(12) == 0 ? about(0, 9999) : last + below(60);
                int point = about(0, 15);
                int work = below(25) == 0 ? 0 : about(1, 300);
                due("call(" + minute + ", " + point + ", " + work + ")", x.call(minute, point, work), o.call(minute, point, work));
            }
        }

        private void taken() {
            int a = about(0, 15);
            int b = about(0, 15);
            for (int what = -1; what < 24; what++) {
                due("taken(" + a + ", " + b + ", " + what + ")", x.taken(a, b, what), o.taken(a, b, what));
            }
        }

        private void rain() {
            int use = below(3) == 0 ? about(0, 99) : below(12);
            int rain = about(0, 100);
            int gain = below(3) == 0 ? about(0, 99) : below(12);
            int shut = below(3) == 0 ? about(0, 999) : Math.max(0, o.water - below(60));
            int n = about(0, 60);
            String all = use + ", " + rain + ", " + gain + ", " + shut;
            due("left(" + all + ", " + n + ")", x.left(use, rain, gain, shut, n), o.left(use, rain, gain, shut, n));
            due("shuts(" + all + ")", x.shuts(use, rain, gain, shut), o.shuts(use, rain, gain, shut));
        }

        private void money() {
            int b = aBoat();
            int week = about(0, 9);
            boolean away = below(2) == 0;
            due("price(" + b + ", " + week + ", " + away + ")", x.price(b, week, away), o.price(b, week, away));
            int depth = about(0, 99);
            int said = about(0, 9);
            due("held(" + b + ", " + depth + ", " + said + ", " + week + ")",
                x.held(b, depth, said, week), o.held(b, depth, said, week));
            int what = about(0, 7);
            due("look(" + what + ")", x.look(what), o.look(what));
        }
    }

    /** Made-up texts of rules. */
    private static final class Texts {
        private static final String[] NAMES = {"day", "week", "water", "berths", "away", "age", "depth", "said", "taught"};

        static String valid() {
            StringBuilder s = new StringBuilder();
            Set<String> tunnels = new HashSet<>();
            int lines = below(3) == 0 ? below(17) : below(8);
            for (int i = 0; i < lines; i++) {
                String line = line(tunnels);
                if (s.length() + line.length() < 490) {
                    s.append(line).append(below(4) == 0 ? "\n" : "");
                }
            }
            return s.toString();
        }

        private static String line(Set<String> tunnels) {
            int kind = below(6);
            if (kind == 0) {
                String tunnel = below(15) + (below(2) == 0 ? " up " : "\ndown ");
                return tunnels.add(tunnel.replace('\n', ' ')) ? "tunnel " + tunnel + hours() + ";" : "";
            }
            String head = kind <= 2 ? "locks " + hours()
                : kind == 3 ? "price " + sum() : kind == 4 ? "hold " + sum() : "harm " + sum();
            return head + (below(3) != 0 ? " when " + either(0) : "") + ";";
        }

        private static String hours() {
            return below(5) == 0 ? from(0, 24) + " " + from(0, 24) : from(6, 11) + " " + from(12, 22);
        }

        private static String either(int open) {
            return all(open) + (below(5) == 0 ? " or " + all(open) : "");
        }

        private static String all(int open) {
            return one(open) + (below(5) == 0 ? " and " + one(open) : "");
        }

        private static String one(int open) {
            int kind = open < 8 ? below(6) : 5;
            if (kind == 0) {
                return "not " + one(open + 1);
            }
            return kind == 1 ? "(" + either(open + 1) + ")" : sum() + "<=>".charAt(below(3)) + sum();
        }

        private static String sum() {
            String s = product();
            for (int n = below(4); n > 2; n--) {
                s += (below(2) == 0 ? "+" : " - ") + product();
            }
            return s;
        }

        private static String product() {
            String s = unit();
            for (int n = below(4); n > 1; n--) {
                s += below(2) == 0 ? "*" + unit() : "/" + from(1, 12);
            }
            return s;
        }

        private static String unit() {
            return below(2) == 0 ? NAMES[below(9)] : "" + (below(8) == 0 ? below(10000) : below(20));
        }

        /** Something wrong with it, or maybe not. */
        static String spoilt() {
            String s = valid();
            if (below(8) == 0) {
                return tooMany();
            }
            for (int n = from(1, 2); n > 0; n--) {
                int at = below(s.length() + 1);
                s = below(3) == 0 && at < s.length()
                    ? s.substring(0, at) + s.substring(at + 1)
                    : s.substring(0, at) + piece() + s.substring(below(4) == 0 ? Math.min(s.length(), at + 1) : at);
            }
            return s;
        }

        private static String piece() {
            String[] all = {";", "+", "-", "*", "/", "(", ")", "<", "=", ">", " when ", " or ", " and ", " not ", " 0 ", "0",
                "25 ", " 15", "99999", " locks ", " tunnel ", " up ", " down ", " price ", " hold ", " harm ", " day ", "Week",
                "x", ".", "\t", "\u00e9", " not not ", "((", "/ 0", "tunnel 3 up 8 9;tunnel 3 up 9 10;", " ", "\n", "0001"};
            return all[below(all.length)];
        }

        private static String tooMany() {
            StringBuilder s = new StringBuilder();
            if (below(2) == 0) {
                for (int i = from(14, 17); i > 0; i--) {
                    s.append(below(2) == 0 ? "hold 1;" : "locks 8 20;");
                }
                return s.append(below(2) == 0 ? "" : piece()).toString();
            }
            s.append("price 1 when ");
            for (int i = from(5, 10); i > 0; i--) {
                s.append(below(2) == 0 ? "not " : "( ");
            }
            s.append("1 = 1");
            for (int i = from(0, 9); i > 0; i--) {
                s.append(below(6) == 0 ? " and not (1 < 2" : ")");
            }
            return s.append(';').toString();
        }
    }

    /** Token by token the sets of an Earley recogniser: where no set goes on, nothing can stand. */
    private static final class Grammar {
        private static final String[] RULES = {
            "S ->", "S -> S L ;", "L -> locks N N W", "L -> tunnel N V N N", "L -> price E W", "L -> hold E W",
            "L -> harm E W", "V -> up", "V -> down", "W ->", "W -> when B", "B -> A", "B -> B or A", "A -> C",
            "A -> A and C", "C -> E R E", "C -> not C", "C -> ( B )", "R -> <", "R -> =", "R -> >", "E -> T",
            "E -> E + T", "E -> E - T", "T -> U", "T -> T * U", "T -> T / N", "N -> number", "U -> N", "U -> day",
            "U -> week", "U -> water", "U -> berths", "U -> away", "U -> age", "U -> depth", "U -> said", "U -> taught"};
        private static final String[][] RIGHT = new String[RULES.length][];
        private static final String[] LEFT = new String[RULES.length];

        static {
            for (int i = 0; i < RULES.length; i++) {
                String[] sides = RULES[i].split("->", -1);
                LEFT[i] = sides[0].trim();
                RIGHT[i] = sides[1].trim().isEmpty() ? new String[0] : sides[1].trim().split(" ");
            }
        }

        /** The number of the first token that can't stand; as many as there are, if it is the end; NONE. */
        static int firstWrong(List<String> tokens) {
            List<List<int[]>> sets = new ArrayList<>();
            sets.add(new ArrayList<>());
            add(sets.get(0), 0, 0, 0);
            add(sets.get(0), 1, 0, 0);
            for (int at = 0; at <= tokens.size(); at++) {
                List<int[]> next = new ArrayList<>();
                close(sets, at);
                boolean done = false;
                for (int[] item : sets.get(at)) {
                    String[] right = RIGHT[item[0]];
                    done |= item[1] == right.length && item[2] == 0 && LEFT[item[0]].equals("S");
                    if (at < tokens.size() && item[1] < right.length && right[item[1]].equals(tokens.get(at))) {
                        add(next, item[0], item[1] + 1, item[2]);
                    }
                }
                if (at == tokens.size()) {
                    return done ? NONE : at;
                }
                if (next.isEmpty()) {
                    return at;
                }
                sets.add(next);
            }
            return NONE;
        }

        private static void close(List<List<int[]>> sets, int at) {
            List<int[]> set = sets.get(at);
            boolean grown = true;
            while (grown) {
                int before = set.size();
                for (int i = 0; i < set.size(); i++) {
                    int[] item = set.get(i);
                    String[] right = RIGHT[item[0]];
                    if (item[1] == right.length) {
                        for (int[] parent : new ArrayList<>(sets.get(item[2]))) {
                            String[] r = RIGHT[parent[0]];
                            if (parent[1] < r.length && r[parent[1]].equals(LEFT[item[0]])) {
                                add(set, parent[0], parent[1] + 1, parent[2]);
                            }
                        }
                    } else {
                        for (int rule = 0; rule < RULES.length; rule++) {
                            if (LEFT[rule].equals(right[item[1]])) {
                                add(set, rule, 0, at);
                            }
                        }
                    }
                }
                grown = set.size() > before;
            }
        }

        private static void add(List<int[]> set, int rule, int dot, int origin) {
            for (int[] i : set) {
                if (i[0] == rule && i[1] == dot && i[2] == origin) {
                    return;
                }
            }
            set.add(new int[] {rule, dot, origin});
        }
    }

    /** The document once more, slowly. */
    private static final class Oracle {
        private final int[] miles = new int[15];
        private final int[] locks = new int[15];
        private final int[] road = new int[15];
        private final int[] weights = new int[16];
        private final boolean[] pumps = new boolean[16];
        int water = 500;
        private final List<int[]> stoppages = new ArrayList<>();
        final List<int[]> boats = new ArrayList<>();
        final List<List<int[]>> logs = new ArrayList<>();
        final List<int[]> trips = new ArrayList<>();
        final List<int[]> queue = new ArrayList<>();
        final List<int[]> bookings = new ArrayList<>();
        final List<int[]> calls = new ArrayList<>();
        private final List<Integer> jobs = new ArrayList<>();
        private final Map<Integer, int[]> dock = new HashMap<>();
        private String tape = "";
        private List<List<String>> lines = new ArrayList<>();
        final int[] fault = {0, NONE};

        Oracle() {
            Arrays.fill(miles, 1);
            Arrays.fill(road, 5);
        }

        private static boolean in(int v, int a, int b) {
            return a <= v && v <= b;
        }

        private static boolean time(int t) {
            return in(t, 0, 20159);
        }

        private static boolean point(int p) {
            return in(p, 0, 15);
        }

        private boolean known(int b) {
            return b >= 0 && b < boats.size();
        }

        boolean stretch(int i, int m, int l, int r) {
            boolean can = in(i, 0, 14) && in(m, 0, 9) && in(l, 0, 9) && in(r, 1, 99);
            if (can) {
                miles[i] = m;
                locks[i] = l;
                road[i] = r;
            }
            return can;
        }

        boolean water(int v) {
            water = in(v, 0, 999) ? v : water;
            return in(v, 0, 999);
        }

        int stoppage(int i, int from, int to) {
            if (i == NONE) {
                stoppages.clear();
                return 0;
            }
            if (!in(i, 0, 14) || !in(from, 0, 13) || !in(to, 0, 13) || from > to || stoppages.size() == 8) {
                return NONE;
            }
            stoppages.add(new int[] {i, from, to});
            return stoppages.size();
        }

        int boat(int berths, int age, int home, int taught) {
            if (!in(berths, 2, 12) || !in(age, 0, 99) || !point(home) || !in(taught, 0, 60) || boats.size() == 10) {
                return NONE;
            }
            boats.add(new int[] {berths, age, home, taught});
            logs.add(new ArrayList<>());
            return boats.size() - 1;
        }

        int feed(int[] n) {
            if (tape.length() + 20 > 500) {
                return NONE;
            }
            for (int i = 0; i < 20; i++) {
                tape += (char) (n[i / 4] >> (8 * (3 - i % 4)) & 255);
            }
            return tape.length();
        }

        boolean end(int n) {
            if (n < 0 || n > tape.length()) {
                return false;
            }
            tape = tape.substring(0, n);
            return true;
        }

        int rules() {
            String text = tape;
            tape = "";
            List<String> words = new ArrayList<>();
            List<Integer> places = new ArrayList<>();
            for (int i = 0; i < text.length();) {
                int j = i + 1;
                char c = text.charAt(i);
                if (c != ' ' && c != '\n') {
                    boolean letter = letter(c);
                    boolean digit = digit(c);
                    while ((letter || digit) && j < text.length() && (letter ? letter(text.charAt(j)) : digit(text.charAt(j)))) {
                        j++;
                    }
                    words.add(text.substring(i, j));
                    places.add(i);
                }
                i = j;
            }
            places.add(text.length());
            List<String> kinds = new ArrayList<>();
            for (String w : words) {
                kinds.add(w.matches("[0-9]{1,4}") ? "number" : w.matches("S|L|V|W|B|A|C|R|E|T|U|N|number") ? "?" : w);
            }
            int bad = Grammar.firstWrong(kinds);
            int[] other = otherFault(words, bad == NONE ? words.size() : bad);
            fault[0] = other[0] > 0 ? other[0] : bad == NONE ? 0 : 1;
            fault[1] = other[0] > 0 ? places.get(other[1]) : bad == NONE ? NONE : places.get(bad);
            if (fault[0] != 0) {
                return NONE;
            }
            lines = new ArrayList<>();
            List<String> line = new ArrayList<>();
            for (String w : words) {
                if (w.equals(";")) {
                    lines.add(line);
                    line = new ArrayList<>();
                } else {
                    line.add(w);
                }
            }
            return lines.size();
        }

        private static boolean letter(char c) {
            return c >= 'a' && c <= 'z' || c >= 'A' && c <= 'Z';
        }

        private static boolean digit(char c) {
            return c >= '0' && c <= '9';
        }

        /** The first fault of the kinds 2 and 3 among the first n tokens, all of which can stand. */
        private static int[] otherFault(List<String> words, int n) {
            Set<String> tunnels = new HashSet<>();
            List<String> open = new ArrayList<>();
            int count = 0;
            List<String> line = new ArrayList<>();
            for (int i = 0; i < n; i++) {
                String w = words.get(i);
                int k = line.size();
                String head = k > 0 ? line.get(0) : "";
                if (k == 0 && ++count == 17) {
                    return new int[] {3, i};
                }
                if (w.matches("[0-9]+")) {
                    int v = Integer.parseInt(w);
                    boolean hour = head.equals("locks") && k <= 2 || head.equals("tunnel") && k >= 3;
                    boolean stretch = head.equals("tunnel") && k == 1;
                    if (hour && v > 24 || stretch && v > 14 || line.get(k - 1).equals("/") && v == 0) {
                        return new int[] {2, i};
                    }
                }
                if (w.equals("up") || w.equals("down")) {
                    if (!tunnels.add(w + Integer.parseInt(line.get(1)))) {
                        return new int[] {3, i};
                    }
                }
                if (w.equals("and") || w.equals("or") || w.equals(")") || w.equals(";")) {
                    dropNots(open);
                    if (w.equals(")")) {
                        open.remove(open.size() - 1);
                        dropNots(open);
                    }
                }
                if (w.equals("(") || w.equals("not")) {
                    if (open.size() == 8) {
                        return new int[] {3, i};
                    }
                    open.add(w);
                }
                line.add(w);
                if (w.equals(";")) {
                    line.clear();
                }
            }
            return new int[] {0, 0};
        }

        private static void dropNots(List<String> open) {
            while (!open.isEmpty() && open.get(open.size() - 1).equals("not")) {
                open.remove(open.size() - 1);
            }
        }

        /** The value of a line's E, or that of its B, both by cutting it at its weakest signs. */
        private static int sum(List<String> w, Map<String, Integer> names) {
            for (int i = w.size() - 1; i >= 0; i--) {
                if (w.get(i).equals("+") || w.get(i).equals("-")) {
                    int a = sum(w.subList(0, i), names);
                    int b = sum(w.subList(i + 1, w.size()), names);
                    return w.get(i).equals("+") ? a + b : a - b;
                }
            }
            for (int i = w.size() - 1; i >= 0; i--) {
                if (w.get(i).equals("*") || w.get(i).equals("/")) {
                    int a = sum(w.subList(0, i), names);
                    int b = sum(w.subList(i + 1, w.size()), names);
                    return w.get(i).equals("*") ? a * b : a / b;
                }
            }
            return digit(w.get(0).charAt(0)) ? Integer.parseInt(w.get(0)) : names.getOrDefault(w.get(0), 0);
        }

        private static boolean so(List<String> w, Map<String, Integer> names) {
            for (String sign : new String[] {"or", "and"}) {
                int depth = 0;
                for (int i = w.size() - 1; i >= 0; i--) {
                    depth += w.get(i).equals(")") ? 1 : w.get(i).equals("(") ? -1 : 0;
                    if (depth == 0 && w.get(i).equals(sign)) {
                        boolean a = so(w.subList(0, i), names);
                        boolean b = so(w.subList(i + 1, w.size()), names);
                        return sign.equals("or") ? a || b : a && b;
                    }
                }
            }
            if (w.get(0).equals("not")) {
                return !so(w.subList(1, w.size()), names);
            }
            if (w.get(0).equals("(")) {
                return so(w.subList(1, w.size() - 1), names);
            }
            for (int i = 0; i < w.size(); i++) {
                if ("<=>".contains(w.get(i))) {
                    int a = sum(w.subList(0, i), names);
                    int b = sum(w.subList(i + 1, w.size()), names);
                    return w.get(i).equals("<") ? a < b : w.get(i).equals("=") ? a == b : a > b;
                }
            }
            throw new IllegalStateException("no condition " + w);
        }

        private List<String> serving(String kind, Map<String, Integer> names) {
            for (List<String> line : lines) {
                int when = line.indexOf("when");
                if (line.get(0).equals(kind) && (when < 0 || so(line.subList(when + 1, line.size()), names))) {
                    return when < 0 ? line : line.subList(0, when);
                }
            }
            return null;
        }

        private int[] hours(int day) {
            List<String> line = serving("locks", Map.of("day", day % 7, "week", day / 7, "water", water));
            return line == null ? new int[] {0, 24} : new int[] {Integer.parseInt(line.get(1)), Integer.parseInt(line.get(2))};
        }

        int open(int day, int what) {
            return in(day, 0, 13) && in(what, 0, 1) ? hours(day)[what] : NONE;
        }

        private int[] tunnel(int stretch, String way) {
            for (List<String> line : lines) {
                if (line.get(0).equals("tunnel") && Integer.parseInt(line.get(1)) == stretch && line.get(2).equals(way)) {
                    return new int[] {Integer.parseInt(line.get(3)), Integer.parseInt(line.get(4))};
                }
            }
            return null;
        }

        /** The days of the locks that it begins are added to begun. */
        private int goes(int taught, int from, int to, int time, boolean stops, List<Integer> begun) {
            int[][] hours = new int[14][];
            for (int d = 0; d < 14; d++) {
                hours[d] = hours(d);
            }
            int now = time;
            for (int p = from; p != to; p += to > from ? 1 : -1) {
                int stretch = to > from ? p : p - 1;
                int[] up = tunnel(stretch, "up");
                int[] down = tunnel(stretch, "down");
                int[] mine = to > from ? up : down;
                boolean tunnel = up != null || down != null;
                List<int[]> steps = new ArrayList<>();
                for (int m = 0; m < (tunnel ? Math.min(1, miles[stretch]) : miles[stretch]); m++) {
                    steps.add(new int[] {0, tunnel ? 20 * miles[stretch] : 20});
                }
                for (int l = 0; l < locks[stretch]; l++) {
                    steps.add(new int[] {1, 15 + (60 - taught) / 6});
                }
                for (int[] step : steps) {
                    boolean begins = false;
                    for (; now <= 20159 && !begins; now++) {
                        int day = now / 1440;
                        int hour = now % 1440 / 60;
                        begins = hour >= 8 && hour <= 19 && !(stops && stopped(stretch, day));
                        if (step[0] == 1) {
                            begins &= hour >= hours[day][0] && hour < hours[day][1];
                        } else if (tunnel) {
                            begins &= mine != null && hour >= mine[0] && hour < mine[1];
                        }
                    }
                    if (!begins || now - 1 + step[1] > 20159) {
                        return NONE;
                    }
                    if (step[0] == 1) {
                        begun.add((now - 1) / 1440);
                    }
                    now = now - 1 + step[1];
                }
            }
            return now;
        }

        private boolean stopped(int stretch, int day) {
            for (int[] s : stoppages) {
                if (s[0] == stretch && s[1] <= day && day <= s[2]) {
                    return true;
                }
            }
            return false;
        }

        private int going(int boat, int from, int to, int time) {
            return goes(boats.get(boat)[3], from, to, time, true, new ArrayList<>());
        }

        int comes(int b, int f, int t, int time) {
            return known(b) && point(f) && point(t) && time(time) ? going(b, f, t, time) : NONE;
        }

        private int may(int b, int p, int since, int time) {
            int set = 0;
            for (int q = 0; q < 16; q++) {
                int m = going(b, p, q, since);
                set |= m != NONE && m <= time ? 1 << q : 0;
            }
            return set;
        }

        int maybe(int b, int p, int since, int time) {
            return known(b) && point(p) && time(since) && time(time) && since <= time ? may(b, p, since, time) : NONE;
        }

        int harm(int b, int f, int t, int time) {
            if (comes(b, f, t, time) == NONE) {
                return NONE;
            }
            List<Integer> begun = new ArrayList<>();
            goes(boats.get(b)[3], f, t, time, true, begun);
            int sum = 0;
            for (int day : begun) {
                Map<String, Integer> names = Map.of("day", day % 7, "week", day / 7, "water", water,
                    "berths", boats.get(b)[0], "age", boats.get(b)[1], "taught", boats.get(b)[3]);
                List<String> line = serving("harm", names);
                sum += line == null ? 0 : Math.min(999, Math.max(0, sum(line.subList(1, line.size()), names)));
            }
            return sum;
        }

        int trip(int b, int f, int t, int time, int d) {
            if (!known(b) || !point(f) || !point(t) || !time(time) || !time(d) || trips.size() == 20) {
                return NONE;
            }
            trips.add(new int[] {b, f, t, time, d});
            return trips.size() - 1;
        }

        private int lateness(int k, boolean stops) {
            int[] t = trips.get(k);
            int m = goes(boats.get(t[0])[3], t[1], t[2], t[3], stops, new ArrayList<>());
            return m == NONE ? 20160 : m > t[4] ? m - t[4] : 0;
        }

        int late(int k) {
            if (k == NONE) {
                int n = 0;
                for (int i = 0; i < trips.size(); i++) {
                    n += lateness(i, true) > 0 ? 1 : 0;
                }
                return n;
            }
            return in(k, 0, trips.size() - 1) ? lateness(k, true) : NONE;
        }

        int rung() {
            int set = 0;
            for (int i = 0; i < trips.size(); i++) {
                set |= lateness(i, true) > 0 && lateness(i, false) == 0 ? 1 << i : 0;
            }
            return set;
        }

        int back(int k, int what) {
            if (!in(k, 0, trips.size() - 1) || !in(what, 0, 1)) {
                return NOTHING;
            }
            int[] t = trips.get(k);
            if (what == 0) {
                int far = NOTHING;
                for (int p = t[1];; p += t[2] > t[1] ? 1 : -1) {
                    int there = going(t[0], t[1], p, t[3]);
                    int again = there == NONE ? NONE : going(t[0], p, t[1], there);
                    far = again != NONE && again <= t[4] ? p : far;
                    if (p == t[2]) {
                        return far;
                    }
                }
            }
            int late = lateness(k, true);
            if (late == 0) {
                return 0;
            }
            Integer price = priceOf(t[0], t[3] / 10080, t[1] != t[2]);
            int days = 0;
            for (int m = 0; m < late && days < 7; m += 1440) {
                days++;
            }
            return price == null ? NOTHING : (int) ((long) price * days / 7);
        }

        boolean pump(int p, boolean is) {
            if (point(p)) {
                pumps[p] = is;
            }
            return point(p);
        }

        int pumped(int b, int p, int time, int since, int what) {
            if (!known(b) || !point(p) || !time(time) || !time(since) || since > time || !in(what, 0, 2)) {
                return NONE;
            }
            int best = NONE;
            int minute = NONE;
            for (int q = 0; q < 16; q++) {
                int m = pumps[q] ? going(b, p, q, time) : NONE;
                if (m != NONE && (best == NONE || m < minute)) {
                    best = q;
                    minute = m;
                }
            }
            return best == NONE ? NONE : what == 0 ? best : what == 1 ? minute : since + 10080 < minute ? 1 : 0;
        }

        int enough(int b, int f, int t, int time, int d) {
            if (!known(b) || !point(f) || !point(t) || !time(time) || !time(d)) {
                return NONE;
            }
            for (int m = 0; m <= 60; m++) {
                int c = time + m > 20159 ? NONE : goes(m, f, t, time + m, true, new ArrayList<>());
                if (c != NONE && c <= d) {
                    return m;
                }
            }
            return NONE;
        }

        int log(int b, int p, int time) {
            if (!known(b) || !point(p) || !time(time)) {
                return NONE;
            }
            List<int[]> l = logs.get(b);
            if (l.size() == 10 || !l.isEmpty() && l.get(l.size() - 1)[1] >= time) {
                return NONE;
            }
            l.add(new int[] {p, time});
            return l.size();
        }

        /** The last log not behind a minute: its number, NONE without one. */
        private int last(int b, int t) {
            int last = NONE;
            for (int i = 0; i < logs.get(b).size(); i++) {
                last = logs.get(b).get(i)[1] <= t ? i : last;
            }
            return last;
        }

        private int[] whereLast(int b, int t) {
            int i = last(b, t);
            return i == NONE ? new int[] {boats.get(b)[2], 0} : logs.get(b).get(i);
        }

        private boolean can(int b, int p, int from, int to) {
            Map<Integer, Integer> come = new HashMap<>();
            for (int t = from; t <= to; t++) {
                int i = last(b, t);
                if (!come.containsKey(i)) {
                    int[] w = whereLast(b, t);
                    come.put(i, going(b, w[0], p, w[1]));
                }
                if (come.get(i) == NONE || come.get(i) > t) {
                    continue;
                }
                if (i + 1 >= logs.get(b).size()) {
                    return true;
                }
                int[] next = logs.get(b).get(i + 1);
                int on = going(b, p, next[0], t);
                if (on != NONE && on <= next[1]) {
                    return true;
                }
            }
            return false;
        }

        int could(int b, int p, int from, int to) {
            return known(b) && point(p) && time(from) && time(to) && from <= to ? can(b, p, from, to) ? 1 : 0 : NONE;
        }

        int whose(int p, int from, int to, int what) {
            if (!point(p) || !time(from) || !time(to) || from > to || !in(what, 0, 1)) {
                return NONE;
            }
            int set = 0;
            for (int b = 0; b < boats.size(); b++) {
                set |= can(b, p, from, to) ? 1 << b : 0;
            }
            if (what == 0) {
                return set;
            }
            for (int b = 0; b < 10; b++) {
                if (set == 1 << b) {
                    return b;
                }
            }
            return NONE;
        }

        int tonight(int time, int what) {
            if (!time(time) || !in(what, 0, 17)) {
                return NONE;
            }
            int[] at = new int[16];
            int[] many = new int[16];
            for (int b = 0; b < boats.size(); b++) {
                int[] w = whereLast(b, time);
                int set = may(b, w[0], w[1], time);
                for (int p = 0; p < 16; p++) {
                    if ((set & 1 << p) != 0) {
                        at[p] += 1 << b;
                        many[p]++;
                    }
                }
            }
            int crowd = 0;
            for (int p = 15; p >= 0; p--) {
                crowd = many[p] >= many[crowd] ? p : crowd;
            }
            return what < 16 ? at[what] : what == 16 ? crowd : many[crowd];
        }

        int lockQueue(int minute, int way) {
            if (way == NONE) {
                queue.clear();
                return 0;
            }
            if (!in(minute, 0, 9999) || !in(way, 0, 1) || queue.size() == 7
                || !queue.isEmpty() && queue.get(queue.size() - 1)[0] > minute) {
                return NONE;
            }
            queue.add(new int[] {minute, way});
            return queue.size();
        }

        private static List<int[]> orders(int n) {
            List<int[]> all = new ArrayList<>();
            orders(new int[n], 0, new boolean[n], all);
            return all;
        }

        private static void orders(int[] now, int i, boolean[] used, List<int[]> all) {
            if (i == now.length) {
                all.add(now.clone());
            }
            for (int k = 0; k < now.length && i < now.length; k++) {
                if (!used[k]) {
                    used[k] = true;
                    now[i] = k;
                    orders(now, i + 1, used, all);
                    used[k] = false;
                }
            }
        }

        private int wait(int[] order) {
            int wait = 0;
            int free = 0;
            for (int i = 0; i < order.length; i++) {
                int[] q = queue.get(order[i]);
                int begin = q[0] > free ? q[0] : free;
                wait += begin - q[0];
                free = begin + 15 + (i > 0 && queue.get(order[i - 1])[1] == q[1] ? 5 : 0);
            }
            return wait;
        }

        private int lockfuls(int[] order) {
            int n = order.length;
            for (int i = 1; i < order.length; i++) {
                n -= queue.get(order[i])[1] != queue.get(order[i - 1])[1] ? 1 : 0;
            }
            return n;
        }

        private int[] bestOrder = {};
        private String bestOrderOf = "";

        int lock(int what) {
            StringBuilder key = new StringBuilder();
            for (int[] q : queue) {
                key.append(q[0]).append(' ').append(q[1]).append(' ');
            }
            List<int[]> all = orders(key.toString().equals(bestOrderOf) ? 0 : queue.size());
            if (!key.toString().equals(bestOrderOf)) {
                bestOrderOf = key.toString();
                bestOrder = all.get(0);
                for (int[] o : all) {
                    bestOrder = wait(o) < wait(bestOrder) ? o : bestOrder;
                }
            }
            int[] come = new int[queue.size()];
            for (int i = 0; i < come.length; i++) {
                come[i] = i;
            }
            switch (what) {
                case 0: return wait(come);
                case 1: return wait(bestOrder);
                case 2: return lockfuls(come);
                case 3: return lockfuls(bestOrder);
                default: return in(what, 10, 9 + queue.size()) ? bestOrder[what - 10] : NONE;
            }
        }

        int booking(int f, int t, int week, int berths) {
            if (!point(f) || !point(t) || !in(week, 0, 9) || !in(berths, 2, 12) || bookings.size() == 8) {
                return NONE;
            }
            bookings.add(new int[] {f, t, week, berths});
            return bookings.size() - 1;
        }

        /** Served, home, then the boats of the bookings by their numbers. */
        private int[] give(List<int[]> fleet) {
            List<Integer> through = new ArrayList<>();
            for (int w = 0; w < 10; w++) {
                for (int i = 0; i < bookings.size(); i++) {
                    if (bookings.get(i)[2] == w) {
                        through.add(i);
                    }
                }
            }
            int n = through.size();
            int k = fleet.size();
            int[] best = null;
            int[] way = new int[n];
            while (true) {
                int[] got = tryWay(fleet, through, way);
                if (got != null && (best == null || got[0] > best[0] || got[0] == best[0] && got[1] > best[1])) {
                    best = got;
                }
                int i = n - 1;
                while (i >= 0 && way[i] == k) {
                    way[i] = 0;
                    i--;
                }
                if (i < 0) {
                    return best;
                }
                way[i]++;
            }
        }

        private int[] tryWay(List<int[]> fleet, List<Integer> through, int[] way) {
            int n = through.size();
            int[] got = new int[2 + n];
            int[] at = new int[fleet.size()];
            int[] last = new int[fleet.size()];
            for (int b = 0; b < at.length; b++) {
                at[b] = fleet.get(b)[1];
                last[b] = -1;
            }
            for (int i = 0; i < n; i++) {
                int[] booking = bookings.get(through.get(i));
                int b = way[i];
                got[2 + through.get(i)] = b == at.length ? NONE : b;
                if (b == at.length) {
                    continue;
                }
                if (at[b] != booking[0] || last[b] == booking[2] || fleet.get(b)[0] < booking[3]) {
                    return null;
                }
                at[b] = booking[1];
                last[b] = booking[2];
                got[0]++;
            }
            for (int b = 0; b < at.length; b++) {
                got[1] += at[b] == fleet.get(b)[1] ? 1 : 0;
            }
            return got;
        }

        private List<int[]> fleet(int k) {
            List<int[]> fleet = new ArrayList<>();
            for (int b = 0; b < k; b++) {
                fleet.add(new int[] {boats.get(b)[0], boats.get(b)[2]});
            }
            return fleet;
        }

        private final Map<String, int[]> gave = new HashMap<>();

        private int[] giveOnce(List<int[]> fleet) {
            StringBuilder key = new StringBuilder().append(bookings.size());
            for (int[] f : fleet) {
                key.append(' ').append(f[0]).append(' ').append(f[1]);
            }
            return gave.computeIfAbsent(key.toString(), s -> give(fleet));
        }

        int given(int k, int what) {
            if (!in(k, 1, 4) || k > boats.size() || !in(what, 0, 1) && !in(what, 10, 9 + bookings.size())) {
                return NONE;
            }
            int[] got = giveOnce(fleet(k));
            return what < 2 ? got[what] : got[what - 8];
        }

        int more(int k, int berths, int home) {
            if (!in(k, 1, 3) || k > boats.size() || !in(berths, 2, 12) || !point(home)) {
                return NONE;
            }
            List<int[]> with = fleet(k);
            with.add(new int[] {berths, home});
            return giveOnce(with)[0] - giveOnce(fleet(k))[0];
        }

        boolean gas(int b, int date, int days) {
            if (!known(b) || !in(date, 0, 999) || !in(days, 0, 60)) {
                return false;
            }
            if (!dock.containsKey(b) && dock.size() == 7) {
                return false;
            }
            if (days == 0) {
                dock.remove(b);
                return true;
            }
            dock.put(b, new int[] {date, days});
            return true;
        }

        private int[] dockBest;
        private String dockOf = "";

        int dock(int what) {
            List<Integer> in = new ArrayList<>();
            StringBuilder key = new StringBuilder("of");
            for (int b = 0; b < 10; b++) {
                if (dock.containsKey(b)) {
                    in.add(b);
                    key.append(' ').append(b).append(' ').append(dock.get(b)[0]).append(' ').append(dock.get(b)[1]);
                }
            }
            if (!key.toString().equals(dockOf)) {
                dockOf = key.toString();
                dockBest = null;
                for (int[] order : orders(in.size())) {
                    int[] got = new int[2 + order.length];
                    int day = 0;
                    for (int i = 0; i < order.length; i++) {
                        int[] told = dock.get(in.get(order[i]));
                        day += told[1];
                        got[0] += day > told[0] ? 1 : 0;
                        got[1] += day;
                        got[2 + i] = in.get(order[i]);
                    }
                    if (dockBest == null || got[0] < dockBest[0] || got[0] == dockBest[0] && got[1] < dockBest[1]) {
                        dockBest = got;
                    }
                }
            }
            if (what == 2) {
                return in.size();
            }
            return in(what, 0, 1) ? dockBest[what] : in(what, 10, 9 + in.size()) ? dockBest[what - 8] : NONE;
        }

        int job(int m) {
            if (m == 0) {
                jobs.clear();
                return 0;
            }
            if (!in(m, 1, 300) || jobs.size() == 8) {
                return NONE;
            }
            jobs.add(m);
            return jobs.size();
        }

        int turned(int hands, int what) {
            if (!in(hands, 1, 3) || !in(what, 0, 2) && !in(what, 10, 9 + jobs.size())) {
                return NONE;
            }
            if (what == 0 || what == 2) {
                int[] free = new int[hands];
                int over = 0;
                for (int m : jobs) {
                    int best = 0;
                    for (int h = hands - 1; h >= 0; h--) {
                        best = free[h] <= free[best] ? h : best;
                    }
                    free[best] += m;
                    over += free[best] > 300 ? 1 : 0;
                }
                return what == 2 ? over : 600 + Arrays.stream(free).max().getAsInt();
            }
            int ways = 1;
            for (int i = 0; i < jobs.size(); i++) {
                ways *= hands;
            }
            int bestEnd = Integer.MAX_VALUE;
            int[] best = null;
            for (int w = 0; w < ways; w++) {
                int[] hand = new int[jobs.size()];
                int[] load = new int[hands];
                int rest = w;
                for (int j = jobs.size() - 1; j >= 0; j--) {
                    hand[j] = rest % hands;
                    rest /= hands;
                    load[hand[j]] += jobs.get(j);
                }
                int end = Arrays.stream(load).max().getAsInt();
                if (end < bestEnd) {
                    bestEnd = end;
                    best = hand;
                }
            }
            return what == 1 ? 600 + bestEnd : best[what - 10];
        }

        boolean setWeight(int p, int v) {
            boolean can = point(p) && in(v, 0, 99);
            if (can) {
                weights[p] = v;
            }
            return can;
        }

        private int way(int a, int b) {
            int sum = 0;
            for (int i = Math.min(a, b); i < Math.max(a, b); i++) {
                sum += road[i];
            }
            return sum;
        }

        private int sumOf(int p) {
            int sum = 0;
            for (int q = 0; q < 16; q++) {
                sum += weights[q] * way(p, q);
            }
            return sum;
        }

        private int worstOf(int p) {
            int worst = 0;
            for (int q = 0; q < 16; q++) {
                worst = weights[q] > 0 && way(p, q) > worst ? way(p, q) : worst;
            }
            return worst;
        }

        int van(int what) {
            int best = 0;
            for (int p = 15; p >= 0; p--) {
                best = sumOf(p) <= sumOf(best) ? p : best;
            }
            if (in(what, 0, 2)) {
                return what == 0 ? best : what == 1 ? sumOf(best) : worstOf(best);
            }
            return in(what, 100, 115) ? sumOf(what - 100) : in(what, 200, 215) ? worstOf(what - 200) : NONE;
        }

        int vans(int what) {
            int best = Integer.MAX_VALUE;
            int couple = NONE;
            for (int a = 0; a < 16; a++) {
                for (int b = a; b < 16; b++) {
                    int sum = 0;
                    for (int q = 0; q < 16; q++) {
                        sum += weights[q] * Math.min(way(a, q), way(b, q));
                    }
                    if (sum < best) {
                        best = sum;
                        couple = 16 * a + b;
                    }
                }
            }
            return what == 0 ? couple : what == 1 ? best : NONE;
        }

        int call(int minute, int point, int work) {
            if (work == 0) {
                calls.clear();
                return 0;
            }
            if (!in(minute, 0, 9999) || !point(point) || !in(work, 1, 300) || calls.size() == 12
                || !calls.isEmpty() && calls.get(calls.size() - 1)[0] > minute) {
                return NONE;
            }
            calls.add(new int[] {minute, point, work});
            return calls.size();
        }

        int taken(int a, int b, int what) {
            if (!point(a) || !point(b) || !in(what, 0, 2) && !in(what, 10, 9 + calls.size())) {
                return NONE;
            }
            int[] where = {a, b};
            int[] free = {0, 0};
            int[] got = new int[10 + calls.size()];
            for (int i = 0; i < calls.size(); i++) {
                int[] c = calls.get(i);
                int[] there = new int[2];
                for (int v = 0; v < 2; v++) {
                    there[v] = Math.max(free[v], c[0]) + way(where[v], c[1]);
                }
                int v = there[0] <= there[1] ? 0 : 1;
                where[v] = c[1];
                free[v] = there[v] + c[2];
                got[0] += there[v] - c[0];
                got[1] = Math.max(got[1], there[v] - c[0]);
                got[2] = Math.max(got[2], free[v]);
                got[10 + i] = v;
            }
            return got[what];
        }

        private static boolean weather(int use, int rain, int gain, int shut) {
            return in(use, 0, 99) && in(rain, 0, 100) && in(gain, 0, 99) && in(shut, 0, 999);
        }

        private int kept(int use, int rain, int gain, int shut, int n) {
            Map<Integer, Integer> level = new HashMap<>();
            if (water >= shut) {
                level.put(water, 1000000);
            }
            for (int d = 0; d < n; d++) {
                Map<Integer, Integer> next = new HashMap<>();
                for (Map.Entry<Integer, Integer> e : level.entrySet()) {
                    int low = Math.max(0, e.getKey() - use);
                    int high = Math.min(999, low + gain);
                    int wet = (int) ((long) e.getValue() * rain / 100);
                    next.merge(high, wet, Integer::sum);
                    next.merge(low, e.getValue() - wet, Integer::sum);
                }
                next.keySet().removeIf(l -> l < shut);
                level = next;
            }
            int sum = 0;
            for (int v : level.values()) {
                sum += v;
            }
            return sum;
        }

        int left(int use, int rain, int gain, int shut, int n) {
            return weather(use, rain, gain, shut) && in(n, 0, 60) ? kept(use, rain, gain, shut, n) : NONE;
        }

        int shuts(int use, int rain, int gain, int shut) {
            if (!weather(use, rain, gain, shut)) {
                return NONE;
            }
            for (int n = 0; n <= 60; n++) {
                if (kept(use, rain, gain, shut, n) < 500000) {
                    return n;
                }
            }
            return NONE;
        }

        private Integer priceOf(int b, int week, boolean away) {
            Map<String, Integer> names = Map.of("week", week, "berths", boats.get(b)[0],
                "away", away ? 1 : 0, "age", boats.get(b)[1]);
            List<String> line = serving("price", names);
            return line == null ? null : sum(line.subList(1, line.size()), names);
        }

        int price(int b, int week, boolean away) {
            Integer price = known(b) && in(week, 0, 9) ? priceOf(b, week, away) : null;
            return price == null ? NOTHING : price;
        }

        int held(int b, int depth, int said, int week) {
            if (!known(b) || !in(depth, 0, 99) || !in(said, 0, 9) || !in(week, 0, 9)) {
                return NOTHING;
            }
            Map<String, Integer> names = Map.of("depth", depth, "said", said, "age", boats.get(b)[1], "week", week);
            List<String> line = serving("hold", names);
            return line == null ? 0 : sum(line.subList(1, line.size()), names);
        }

        int look(int what) {
            int[] all = {boats.size(), trips.size(), bookings.size(), jobs.size(), queue.size(), stoppages.size(), water, calls.size()};
            return in(what, 0, 7) ? all[what] : NONE;
        }
    }
}
