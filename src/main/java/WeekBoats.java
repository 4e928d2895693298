import java.util.Arrays;

/**
 * Boats hired by the week on a canal. What each call answers is promised in the document
 * (DOC.md); README.md tells how this file is laid out.
 */
public final class WeekBoats {
    public static final int NONE = -1;

    /** The other "none", of answers that may well be below 0 themselves. */
    private static final int NOTHING = NONE - 999999;

    private static final int POINTS = 16;
    private static final int STRETCHES = 15;
    private static final int DAY = 1440;
    private static final int DAYS = 14;
    private static final int TIMES = 20160;
    private static final int WEEKS = 10;
    private static final int BOATS = 10;
    private static final int LOGS = 10;
    private static final int STOPPAGES = 8;
    private static final int TRIPS = 20;
    private static final int QUEUED = 7;
    private static final int BOOKINGS = 8;
    private static final int ASKED_BOATS = 4;
    private static final int DOCKED = 7;
    private static final int JOBS = 8;
    private static final int LONGEST_JOB = 300;
    private static final int HANDS = 3;
    private static final int CALLS = 12;
    private static final int LEVELS = 1000;
    private static final int CHANCES = 1000000;
    private static final int RAIN_DAYS = 60;
    private static final int TANK_MINUTES = 10080;
    private static final int MOST_TAUGHT = 60;

    private static final int TAPE = 500;
    private static final int LINES = 16;
    private static final int MOST_OPEN = 8;
    private static final int FED = 20;

    /* Signs stand as themselves among the tokens; a NUMBER is FIRST_NUMBER and its value. */
    private static final int END = 0;
    private static final int BAD = 1;
    private static final int FIRST_WORD = 100;
    private static final int LOCKS = 100;
    private static final int TUNNEL = 101;
    private static final int PRICE = 102;
    private static final int HOLD = 103;
    private static final int HARM = 104;
    private static final int UP = 105;
    private static final int DOWN = 106;
    private static final int WHEN = 107;
    private static final int OR = 108;
    private static final int AND = 109;
    private static final int NOT = 110;
    private static final int FIRST_NAME = 111;
    private static final int LAST_NAME = 119;
    private static final int FIRST_NUMBER = 1000;
    /** In the order of the constants above; each word ends with a blank. */
    private static final String WORDS =
        "locks tunnel price hold harm up down when or and not day week water berths away age depth said taught ";
    private static final String SIGNS = ";+-*/()<=>";

    /* What a rule can ask for, by its place behind FIRST_NAME. */
    private static final int NAMES = 9;
    private static final int ASK_DAY = 0;
    private static final int ASK_WEEK = 1;
    private static final int ASK_WATER = 2;
    private static final int ASK_BERTHS = 3;
    private static final int ASK_AWAY = 4;
    private static final int ASK_AGE = 5;
    private static final int ASK_DEPTH = 6;
    private static final int ASK_SAID = 7;
    private static final int ASK_TAUGHT = 8;

    /* Steps of the rules' code that only put a value; the others are named by their token. */
    private static final int PUT_NUMBER = 2;
    private static final int PUT_NAME = 3;

    /* Kinds of a boat's steps. */
    private static final int MILE = 0;
    private static final int LOCK = 1;
    private static final int TUNNEL_UP = 2;
    private static final int TUNNEL_DOWN = 3;

    private final Canal canal;
    private final Rules ruling;
    private final Rules draft;
    private final Parser parser;
    private final Voyage voyage;
    private final Boats boats;
    private final Trips trips;
    private final LockQueue waiting;
    private final Bookings bookings;
    private final Yard yard;
    private final Vans roads;
    private final Rain rains;

    public WeekBoats() {
        canal = new Canal();
        ruling = new Rules();
        draft = new Rules();
        parser = new Parser(draft);
        voyage = new Voyage(canal, ruling);
        boats = new Boats(canal, ruling, voyage);
        trips = new Trips(boats, ruling, voyage);
        waiting = new LockQueue();
        bookings = new Bookings();
        yard = new Yard();
        roads = new Vans(canal);
        rains = new Rain();
    }

    private static boolean within(int v, int least, int most) {
        return v >= least && v <= most;
    }

    private static boolean isPoint(int v) {
        return within(v, 0, POINTS - 1);
    }

    private static boolean isTime(int v) {
        return within(v, 0, TIMES - 1);
    }

    private static boolean isWeek(int v) {
        return within(v, 0, WEEKS - 1);
    }

    private static boolean isBerths(int v) {
        return within(v, 2, 12);
    }

    private boolean isBoat(int v) {
        return within(v, 0, boats.count - 1);
    }

    /** Whether a boat can be told to go there then. */
    private boolean isWay(int boat, int from, int to, int time) {
        return isBoat(boat) && isPoint(from) && isPoint(to) && isTime(time);
    }

    public boolean stretch(int i, int miles, int locks, int road) {
        if (!within(i, 0, STRETCHES - 1) || !within(road, 1, 99)) {
            return false;
        }
        if (!within(miles, 0, 9) || !within(locks, 0, 9)) {
            return false;
        }
        canal.miles[i] = miles;
        canal.locks[i] = locks;
        canal.road[i] = road;
        return true;
    }

    public boolean water(int v) {
        if (!within(v, 0, LEVELS - 1)) {
            return false;
        }
        canal.water = v;
        voyage.learnHours();
        return true;
    }

    public int stoppage(int i, int from, int to) {
        if (i == NONE) {
            canal.reopen();
            return 0;
        }
        if (!within(i, 0, STRETCHES - 1) || from < 0 || from > to || to >= DAYS) {
            return NONE;
        }
        if (canal.stoppages >= STOPPAGES) {
            return NONE;
        }
        canal.stop(i, from, to);
        return canal.stoppages;
    }

    public int boat(int berths, int age, int home, int taught) {
        if (!isBerths(berths) || !within(age, 0, 99)) {
            return NONE;
        }
        if (!isPoint(home) || !within(taught, 0, MOST_TAUGHT)) {
            return NONE;
        }
        return boats.add(berths, age, home, taught);
    }

    public int feed(int a, int b, int c, int d, int e) {
        if (parser.length + FED > TAPE) {
            return NONE;
        }
        parser.put(a);
        parser.put(b);
        parser.put(c);
        parser.put(d);
        parser.put(e);
        return parser.length;
    }

    public boolean end(int n) {
        if (n < 0 || n > parser.length) {
            return false;
        }
        parser.length = n;
        return true;
    }

    public int rules() {
        int lines = parser.read();
        if (lines == NONE) {
            return NONE;
        }
        ruling.takeOver(draft);
        voyage.learnHours();
        return lines;
    }

    public int fault(int what) {
        if (what == 0) {
            return parser.fault;
        }
        return what == 1 ? parser.faultPlace : NONE;
    }

    public int open(int day, int what) {
        if (!within(day, 0, DAYS - 1)) {
            return NONE;
        }
        if (what == 0) {
            return voyage.openFrom[day];
        }
        return what == 1 ? voyage.openTo[day] : NONE;
    }

    public int comes(int boat, int from, int to, int time) {
        if (!isWay(boat, from, to, time)) {
            return NONE;
        }
        return voyage.comesTo(boats.taught[boat], from, to, time, true);
    }

    public int maybe(int boat, int point, int since, int time) {
        if (!isWay(boat, point, point, since) || !isTime(time) || since > time) {
            return NONE;
        }
        voyage.reach(boats.taught[boat], point, since);
        return voyage.reached(time);
    }

    public int harm(int boat, int from, int to, int time) {
        if (!isWay(boat, from, to, time)) {
            return NONE;
        }
        int minute = voyage.comesTo(boats.taught[boat], from, to, time, true);
        return minute == NONE ? NONE : boats.harmOfLatestWay(boat);
    }

    public int back(int k, int what) {
        if (!within(k, 0, trips.count - 1)) {
            return NOTHING;
        }
        if (what == 0) {
            return trips.turningBack(k);
        }
        return what == 1 ? trips.refund(k) : NOTHING;
    }

    public int rung() {
        int set = 0;
        for (int k = 0; k < trips.count; k++) {
            if (trips.lateBy(k, true) > 0 && trips.lateBy(k, false) == 0) {
                set |= 1 << k;
            }
        }
        return set;
    }

    public boolean pump(int point, boolean is) {
        if (!isPoint(point)) {
            return false;
        }
        canal.setPump(point, is);
        return true;
    }

    public int pumped(int boat, int point, int time, int since, int what) {
        if (!isWay(boat, point, point, time) || !isTime(since) || since > time) {
            return NONE;
        }
        voyage.reach(boats.taught[boat], point, time);
        int next = voyage.nextPump();
        if (next == NONE || !within(what, 0, 2)) {
            return NONE;
        }
        if (what == 0) {
            return next;
        }
        int minute = voyage.arrival[next];
        if (what == 1) {
            return minute;
        }
        return since + TANK_MINUTES < minute ? 1 : 0;
    }

    public int enough(int boat, int from, int to, int time, int due) {
        if (!isWay(boat, from, to, time) || !isTime(due)) {
            return NONE;
        }
        for (int m = 0; m <= MOST_TAUGHT && isTime(time + m); m++) {
            int minute = voyage.comesTo(m, from, to, time + m, true);
            if (minute != NONE && minute <= due) {
                return m;
            }
        }
        return NONE;
    }

    public int trip(int boat, int from, int to, int time, int due) {
        if (!isWay(boat, from, to, time) || !isTime(due)) {
            return NONE;
        }
        return trips.add(boat, from, to, time, due);
    }

    public int late(int k) {
        if (k == NONE) {
            return trips.howManyLate();
        }
        return within(k, 0, trips.count - 1) ? trips.lateBy(k, true) : NONE;
    }

    public int log(int boat, int point, int time) {
        if (!isWay(boat, point, point, time)) {
            return NONE;
        }
        return boats.addLog(boat, point, time);
    }

    public int could(int boat, int point, int from, int to) {
        if (!isWay(boat, point, point, from) || !isTime(to) || from > to) {
            return NONE;
        }
        return boats.canHaveBeen(boat, point, from, to) ? 1 : 0;
    }

    public int whose(int point, int from, int to, int what) {
        if (!isPoint(point) || !isTime(from) || !isTime(to) || from > to) {
            return NONE;
        }
        if (!within(what, 0, 1)) {
            return NONE;
        }
        int set = 0;
        int one = NONE;
        for (int boat = 0; boat < boats.count; boat++) {
            if (boats.canHaveBeen(boat, point, from, to)) {
                set |= 1 << boat;
                one = boat;
            }
        }
        if (what == 0) {
            return set;
        }
        return Integer.bitCount(set) == 1 ? one : NONE;
    }

    public int tonight(int time, int what) {
        if (!isTime(time) || !within(what, 0, POINTS + 1)) {
            return NONE;
        }
        boats.settleTonight(time);
        if (what < POINTS) {
            return boats.tonightAt[what];
        }
        int crowd = boats.crowd();
        return what == POINTS ? crowd : Integer.bitCount(boats.tonightAt[crowd]);
    }

    public int queue(int minute, int way) {
        if (way == NONE) {
            waiting.clear();
            return 0;
        }
        if (!within(way, 0, 1) || !within(minute, 0, 9999)) {
            return NONE;
        }
        return waiting.add(minute, way);
    }

    public int lock(int what) {
        switch (what) {
            case 0: return waiting.waitAsCome;
            case 1: return waiting.bestWait;
            case 2: return waiting.lockfulsAsCome();
            case 3: return waiting.lockfulsAtBest();
            default: return waiting.atBest(what);
        }
    }

    public int booking(int from, int to, int week, int berths) {
        if (!isPoint(from) || !isPoint(to) || !isWeek(week) || !isBerths(berths)) {
            return NONE;
        }
        return bookings.add(from, to, week, berths);
    }

    public int given(int k, int what) {
        if (!within(k, 1, ASKED_BOATS) || k > boats.count) {
            return NONE;
        }
        hireFirst(k);
        bookings.giveBest(k);
        if (what == 0) {
            return bookings.bestServed;
        }
        if (what == 1) {
            return bookings.bestHome;
        }
        if (what < 10 || what - 10 >= bookings.count) {
            return NONE;
        }
        return bookings.bestBoat[what - 10];
    }

    private void hireFirst(int k) {
        for (int boat = 0; boat < k; boat++) {
            bookings.hire(boat, boats.berths[boat], boats.home[boat]);
        }
    }

    public int more(int k, int berths, int home) {
        if (!within(k, 1, ASKED_BOATS - 1) || k > boats.count) {
            return NONE;
        }
        if (!isBerths(berths) || !isPoint(home)) {
            return NONE;
        }
        hireFirst(k);
        bookings.hire(k, berths, home);
        bookings.giveBest(k);
        int without = bookings.bestServed;
        bookings.giveBest(k + 1);
        return bookings.bestServed - without;
    }

    public boolean gas(int boat, int date, int days) {
        if (!isBoat(boat) || !within(date, 0, 999) || !within(days, 0, 60)) {
            return false;
        }
        return yard.tellDock(boat, date, days);
    }

    public int dock(int what) {
        yard.orderDock();
        switch (what) {
            case 0: return yard.dockLate[0];
            case 1: return yard.dockSum[0];
            case 2: return yard.docked;
            default: return yard.dockedAt(what);
        }
    }

    public int job(int minutes) {
        if (minutes == 0) {
            yard.jobs = 0;
            return 0;
        }
        if (!within(minutes, 1, LONGEST_JOB)) {
            return NONE;
        }
        return yard.addJob(minutes);
    }

    public int turned(int hands, int what) {
        if (!within(hands, 1, HANDS)) {
            return NONE;
        }
        if (what == 0 || what == 2) {
            yard.workInOrder(hands);
            return what == 0 ? yard.workedEnd : yard.over;
        }
        if (what != 1 && (what < 10 || what - 10 >= yard.jobs)) {
            return NONE;
        }
        yard.shareBest(hands);
        return what == 1 ? yard.bestEnd : yard.bestHand[what - 10];
    }

    public boolean weight(int point, int v) {
        if (!isPoint(point) || !within(v, 0, 99)) {
            return false;
        }
        roads.weight[point] = v;
        return true;
    }

    public int van(int what) {
        roads.measure();
        if (within(what, 0, 2)) {
            int best = roads.bestPoint();
            if (what == 0) {
                return best;
            }
            return what == 1 ? roads.sumFrom(best, best) : roads.worstFrom(best);
        }
        if (isPoint(what - 100)) {
            return roads.sumFrom(what - 100, what - 100);
        }
        return isPoint(what - 200) ? roads.worstFrom(what - 200) : NONE;
    }

    public int vans(int what) {
        if (!within(what, 0, 1)) {
            return NONE;
        }
        roads.measure();
        roads.findCouple();
        return what == 0 ? roads.couple : roads.coupleSum;
    }

    public int call(int minute, int point, int work) {
        if (work == 0) {
            roads.calls = 0;
            return 0;
        }
        if (!within(minute, 0, 9999) || !isPoint(point) || !within(work, 1, 300)) {
            return NONE;
        }
        return roads.addCall(minute, point, work);
    }

    public int taken(int a, int b, int what) {
        if (!isPoint(a) || !isPoint(b)) {
            return NONE;
        }
        roads.measure();
        roads.takeCalls(a, b);
        switch (what) {
            case 0: return roads.waitSum;
            case 1: return roads.waitLongest;
            case 2: return roads.lastDone;
            default: return roads.takerOf(what);
        }
    }

    public int left(int use, int rain, int gain, int shut, int n) {
        if (!isWeather(use, rain, gain, shut) || !within(n, 0, RAIN_DAYS)) {
            return NONE;
        }
        rains.start(canal.water, shut);
        for (int day = 0; day < n; day++) {
            rains.passDay(use, rain, gain, shut);
        }
        return rains.kept;
    }

    private static boolean isWeather(int use, int rain, int gain, int shut) {
        return within(use, 0, 99) && within(rain, 0, 100)
            && within(gain, 0, 99) && within(shut, 0, LEVELS - 1);
    }

    public int shuts(int use, int rain, int gain, int shut) {
        if (!isWeather(use, rain, gain, shut)) {
            return NONE;
        }
        rains.start(canal.water, shut);
        for (int day = 0; day <= RAIN_DAYS; day++) {
            if (rains.kept < CHANCES / 2) {
                return day;
            }
            rains.passDay(use, rain, gain, shut);
        }
        return NONE;
    }

    public int price(int boat, int week, boolean away) {
        if (!isBoat(boat) || !isWeek(week)) {
            return NOTHING;
        }
        int line = boats.priceLine(boat, week, away);
        return line == NONE ? NOTHING : ruling.valueOf(line);
    }

    public int held(int boat, int depth, int said, int week) {
        if (!isBoat(boat) || !isWeek(week)) {
            return NOTHING;
        }
        if (!within(depth, 0, 99) || !within(said, 0, 9)) {
            return NOTHING;
        }
        int line = boats.holdLine(boat, depth, said, week);
        return line == NONE ? 0 : ruling.valueOf(line);
    }

    public int look(int what) {
        switch (what) {
            case 0: return boats.count;
            case 1: return trips.count;
            case 2: return bookings.count;
            case 3: return yard.jobs;
            case 4: return waiting.count;
            case 5: return canal.stoppages;
            case 6: return canal.water;
            case 7: return roads.calls;
            default: return NONE;
        }
    }

    /** What the canal itself is like. */
    private static final class Canal {
        final int[] miles = new int[STRETCHES];
        final int[] locks = new int[STRETCHES];
        final int[] road = new int[STRETCHES];
        /** Of each stretch the days with a stoppage, as a set. */
        final int[] stopped = new int[STRETCHES];
        int stoppages;
        int water = 500;
        int pumps;

        Canal() {
            Arrays.fill(miles, 1);
            Arrays.fill(road, 5);
        }

        void stop(int stretch, int from, int to) {
            for (int day = from; day <= to; day++) {
                stopped[stretch] |= 1 << day;
            }
            stoppages++;
        }

        void reopen() {
            Arrays.fill(stopped, 0);
            stoppages = 0;
        }

        void setPump(int point, boolean is) {
            if (is) {
                pumps |= 1 << point;
            } else {
                pumps &= ~(1 << point);
            }
        }
    }

    /**
     * The lines of a text, each condition and value as a row of steps for a stack: a value is put,
     * or a sign takes one or two and puts what comes of them.
     */
    private static final class Rules {
        final int[] step = new int[TAPE];
        final int[] with = new int[TAPE];
        int steps;
        int lines;
        final int[] kind = new int[LINES];
        /* A line's value is made by the steps from first up to when, its condition from there up to end. */
        final int[] first = new int[LINES];
        final int[] when = new int[LINES];
        final int[] end = new int[LINES];
        final int[] hourFrom = new int[LINES];
        final int[] hourTo = new int[LINES];
        /* Rows of tunnels: those up by their stretch, then those down. */
        int tunnels;
        final int[] tunnelFrom = new int[2 * STRETCHES];
        final int[] tunnelTo = new int[2 * STRETCHES];
        /** What the names stand for. */
        final int[] asked = new int[NAMES];
        /** A value needs four places, and each of the eight that can be open two more. */
        private final int[] stack = new int[32];

        void clear() {
            steps = 0;
            lines = 0;
            tunnels = 0;
            Arrays.fill(tunnelFrom, 0);
            Arrays.fill(tunnelTo, 0);
        }

        void takeOver(Rules other) {
            steps = other.steps;
            lines = other.lines;
            tunnels = other.tunnels;
            System.arraycopy(other.step, 0, step, 0, TAPE);
            System.arraycopy(other.with, 0, with, 0, TAPE);
            System.arraycopy(other.kind, 0, kind, 0, LINES);
            System.arraycopy(other.first, 0, first, 0, LINES);
            System.arraycopy(other.when, 0, when, 0, LINES);
            System.arraycopy(other.end, 0, end, 0, LINES);
            System.arraycopy(other.hourFrom, 0, hourFrom, 0, LINES);
            System.arraycopy(other.hourTo, 0, hourTo, 0, LINES);
            System.arraycopy(other.tunnelFrom, 0, tunnelFrom, 0, 2 * STRETCHES);
            System.arraycopy(other.tunnelTo, 0, tunnelTo, 0, 2 * STRETCHES);
        }

        void put(int what, int value) {
            if (steps < TAPE) {
                step[steps] = what;
                with[steps] = value;
                steps++;
            }
        }

        boolean hasTunnel(int row) {
            return (tunnels >> row & 1) != 0;
        }

        boolean isTunnel(int stretch) {
            return hasTunnel(stretch) || hasTunnel(STRETCHES + stretch);
        }

        void askDay(int day, int water) {
            Arrays.fill(asked, 0);
            asked[ASK_DAY] = day % 7;
            asked[ASK_WEEK] = day / 7;
            asked[ASK_WATER] = water;
        }

        void askWeek(int week) {
            Arrays.fill(asked, 0);
            asked[ASK_WEEK] = week;
        }

        /** The first line of that kind that serves with what is asked. */
        int serving(int wanted) {
            for (int i = 0; i < lines; i++) {
                if (kind[i] == wanted && (when[i] == end[i] || run(when[i], end[i]) != 0)) {
                    return i;
                }
            }
            return NONE;
        }

        int valueOf(int line) {
            return within(line, 0, lines - 1) ? run(first[line], when[line]) : 0;
        }

        private int run(int from, int to) {
            int top = 0;
            for (int i = from; i < to; i++) {
                int what = step[i];
                if (what == PUT_NUMBER || what == PUT_NAME) {
                    if (top >= stack.length) {
                        return 0;
                    }
                    stack[top] = what == PUT_NUMBER ? with[i] : askedOf(with[i]);
                    top++;
                } else if (what == NOT || what == '/') {
                    if (top < 1) {
                        return 0;
                    }
                    stack[top - 1] = alone(what, stack[top - 1], with[i]);
                } else {
                    if (top < 2) {
                        return 0;
                    }
                    top--;
                    stack[top - 1] = both(what, stack[top - 1], stack[top]);
                }
            }
            return top > 0 ? stack[top - 1] : 0;
        }

        private int askedOf(int name) {
            return within(name, 0, NAMES - 1) ? asked[name] : 0;
        }

        private static int alone(int what, int value, int by) {
            if (what == NOT) {
                return 1 - value;
            }
            return by == 0 ? 0 : value / by;
        }

        private static int both(int what, int a, int b) {
            switch (what) {
                case '+': return a + b;
                case '-': return a - b;
                case '*': return a * b;
                case '<': return a < b ? 1 : 0;
                case '=': return a == b ? 1 : 0;
                case '>': return a > b ? 1 : 0;
                case AND: return a & b;
                default: return a | b;
            }
        }
    }

    /** Reads the tape into a draft: first its tokens, then line by line up to the first fault. */
    private static final class Parser {
        private final Rules draft;
        private final int[] tape = new int[TAPE];
        int length;
        private final int[] token = new int[TAPE + 1];
        private final int[] place = new int[TAPE + 1];
        private int tokens;
        private int at;
        int fault;
        int faultPlace = NONE;

        Parser(Rules draft) {
            this.draft = draft;
        }

        void put(int number) {
            for (int shift = 24; shift >= 0; shift -= 8) {
                if (length < TAPE) {
                    tape[length] = number >>> shift & 255;
                    length++;
                }
            }
        }

        /** How many lines the draft has then; NONE, if there is a fault. */
        int read() {
            fault = 0;
            faultPlace = NONE;
            at = 0;
            draft.clear();
            scan();
            for (int n = 0; n <= LINES && fault == 0 && token[at] != END; n++) {
                readLine();
            }
            length = 0;
            return fault == 0 ? draft.lines : NONE;
        }

        private void scan() {
            tokens = 0;
            int from = 0;
            for (int n = 0; n < TAPE && from < length; n++) {
                int sign = tape[from];
                int to = from + 1;
                if (isLetter(sign)) {
                    to = endOfWord(from);
                    add(wordOf(from, to), from);
                } else if (isDigit(sign)) {
                    to = endOfDigits(from);
                    add(numberOf(from, to), from);
                } else if (sign != ' ' && sign != '\n') {
                    add(SIGNS.indexOf((char) sign) >= 0 ? sign : BAD, from);
                }
                from = to;
            }
            add(END, length);
        }

        private void add(int what, int where) {
            if (tokens < token.length) {
                token[tokens] = what;
                place[tokens] = where;
                tokens++;
            }
        }

        private static boolean isLetter(int sign) {
            return within(sign, 'a', 'z') || within(sign, 'A', 'Z');
        }

        private static boolean isDigit(int sign) {
            return within(sign, '0', '9');
        }

        private int endOfWord(int from) {
            int to = from;
            for (int i = from; i < length && isLetter(tape[i]); i++) {
                to = i + 1;
            }
            return to;
        }

        private int endOfDigits(int from) {
            int to = from;
            for (int i = from; i < length && isDigit(tape[i]); i++) {
                to = i + 1;
            }
            return to;
        }

        private int numberOf(int from, int to) {
            if (to - from > 4) {
                return BAD;
            }
            int value = 0;
            for (int i = from; i < to; i++) {
                value = value * 10 + tape[i] - '0';
            }
            return FIRST_NUMBER + value;
        }

        private int wordOf(int from, int to) {
            int word = FIRST_WORD;
            int begin = 0;
            for (int i = 0; i < WORDS.length(); i++) {
                if (WORDS.charAt(i) == ' ') {
                    if (i - begin == to - from && isSame(from, begin, i - begin)) {
                        return word;
                    }
                    word++;
                    begin = i + 1;
                }
            }
            return BAD;
        }

        private boolean isSame(int from, int begin, int size) {
            for (int i = 0; i < size; i++) {
                if (tape[from + i] != WORDS.charAt(begin + i)) {
                    return false;
                }
            }
            return true;
        }

        /** Only the first one counts: nothing is read behind it. */
        private void fail(int what) {
            if (fault == 0) {
                fault = what;
                faultPlace = place[at];
            }
        }

        private boolean is(int what) {
            return fault == 0 && token[at] == what;
        }

        /** The last token is the end, and stays. */
        private void goOn() {
            if (at < tokens - 1) {
                at++;
            }
        }

        private void readLine() {
            int kind = token[at];
            int n = draft.lines;
            if (!within(kind, LOCKS, HARM)) {
                fail(1);
                return;
            }
            if (n >= LINES) {
                fail(3);
                return;
            }
            goOn();
            draft.kind[n] = kind;
            draft.first[n] = draft.steps;
            if (kind == TUNNEL) {
                readTunnel();
            } else if (kind == LOCKS) {
                draft.hourFrom[n] = numberUpTo(24);
                draft.hourTo[n] = numberUpTo(24);
            } else {
                readSum();
            }
            draft.when[n] = draft.steps;
            if (kind != TUNNEL && is(WHEN)) {
                goOn();
                readEither(0);
            }
            draft.end[n] = draft.steps;
            demand(';');
            draft.lines++;
        }

        private void readTunnel() {
            int stretch = numberUpTo(STRETCHES - 1);
            if (!is(UP) && !is(DOWN)) {
                fail(1);
                return;
            }
            int row = is(UP) ? stretch : STRETCHES + stretch;
            if (draft.hasTunnel(row)) {
                fail(3);
                return;
            }
            goOn();
            draft.tunnels |= 1 << row;
            draft.tunnelFrom[row] = numberUpTo(24);
            draft.tunnelTo[row] = numberUpTo(24);
        }

        private int numberUpTo(int most) {
            int number = token[at] - FIRST_NUMBER;
            if (number < 0) {
                fail(1);
            } else if (number > most) {
                fail(2);
            }
            if (fault != 0) {
                return 0;
            }
            goOn();
            return number;
        }

        private void demand(int sign) {
            if (is(sign)) {
                goOn();
            } else {
                fail(1);
            }
        }

        /** B: open is how many ( and not stand open around it. */
        private void readEither(int open) {
            if (open > MOST_OPEN) {
                return;
            }
            readAll(open);
            for (int n = 0; n < TAPE && is(OR); n++) {
                goOn();
                readAll(open);
                draft.put(OR, 0);
            }
        }

        /** A. */
        private void readAll(int open) {
            readOne(open);
            for (int n = 0; n < TAPE && is(AND); n++) {
                goOn();
                readOne(open);
                draft.put(AND, 0);
            }
        }

        /** C: each not stays open until the end of it. */
        private void readOne(int open) {
            int opened = open;
            for (int n = 0; n < TAPE && is(NOT); n++) {
                openOneMore(opened);
                opened++;
            }
            if (is('(')) {
                openOneMore(opened);
                readEither(opened + 1);
                demand(')');
            } else {
                readSum();
                int sign = token[at];
                demandComparing();
                readSum();
                draft.put(sign, 0);
            }
            for (int n = open; n < opened; n++) {
                draft.put(NOT, 0);
            }
        }

        private void openOneMore(int open) {
            if (open >= MOST_OPEN) {
                fail(3);
            } else {
                goOn();
            }
        }

        private void demandComparing() {
            if (is('<') || is('=') || is('>')) {
                goOn();
            } else {
                fail(1);
            }
        }

        /** E. */
        private void readSum() {
            readProduct();
            for (int n = 0; n < TAPE && (is('+') || is('-')); n++) {
                int sign = token[at];
                goOn();
                readProduct();
                draft.put(sign, 0);
            }
        }

        /** T. */
        private void readProduct() {
            readUnit();
            for (int n = 0; n < TAPE && (is('*') || is('/')); n++) {
                boolean times = is('*');
                goOn();
                if (times) {
                    readUnit();
                    draft.put('*', 0);
                } else {
                    readPart();
                }
            }
        }

        /** U. */
        private void readUnit() {
            int what = token[at];
            if (fault != 0) {
                return;
            }
            if (what >= FIRST_NUMBER) {
                draft.put(PUT_NUMBER, what - FIRST_NUMBER);
            } else if (within(what, FIRST_NAME, LAST_NAME)) {
                draft.put(PUT_NAME, what - FIRST_NAME);
            } else {
                fail(1);
                return;
            }
            goOn();
        }

        private void readPart() {
            int number = token[at] - FIRST_NUMBER;
            if (number < 0) {
                fail(1);
            } else if (number == 0) {
                fail(2);
            } else {
                draft.put('/', number);
                goOn();
            }
        }
    }

    /** How a boat goes. */
    private static final class Voyage {
        private final Canal canal;
        private final Rules rules;
        final int[] openFrom = new int[DAYS];
        final int[] openTo = new int[DAYS];
        /** When it comes to each point, of the latest reach. */
        final int[] arrival = new int[POINTS];
        /** How many locks it began on each day, of the latest way. */
        final int[] locksBegun = new int[DAYS];
        private int lockMinutes;
        private boolean heedsStoppages;

        Voyage(Canal canal, Rules rules) {
            this.canal = canal;
            this.rules = rules;
            Arrays.fill(openTo, 24);
        }

        /** To be called when the rules or the water are new: nothing else changes the hours. */
        void learnHours() {
            for (int day = 0; day < DAYS; day++) {
                rules.askDay(day, canal.water);
                int line = rules.serving(LOCKS);
                openFrom[day] = line == NONE ? 0 : rules.hourFrom[line];
                openTo[day] = line == NONE ? 24 : rules.hourTo[line];
            }
        }

        private void setOut(int taught, boolean heeding) {
            lockMinutes = 15 + (MOST_TAUGHT - taught) / 6;
            heedsStoppages = heeding;
            Arrays.fill(locksBegun, 0);
        }

        int comesTo(int taught, int from, int to, int time, boolean heeding) {
            setOut(taught, heeding);
            int minute = time;
            for (int point = from; point < to; point++) {
                minute = pass(point, true, minute);
            }
            for (int point = from; point > to; point--) {
                minute = pass(point - 1, false, minute);
            }
            return minute;
        }

        void reach(int taught, int from, int time) {
            setOut(taught, true);
            arrival[from] = time;
            for (int point = from; point < POINTS - 1; point++) {
                arrival[point + 1] = pass(point, true, arrival[point]);
            }
            for (int point = from; point > 0; point--) {
                arrival[point - 1] = pass(point - 1, false, arrival[point]);
            }
        }

        /** As a set, where it came not later than that. */
        int reached(int time) {
            int set = 0;
            for (int point = 0; point < POINTS; point++) {
                if (arrival[point] != NONE && arrival[point] <= time) {
                    set |= 1 << point;
                }
            }
            return set;
        }

        int nextPump() {
            int next = NONE;
            for (int point = 0; point < POINTS; point++) {
                boolean is = (canal.pumps >> point & 1) != 0 && arrival[point] != NONE;
                if (is && (next == NONE || arrival[point] < arrival[next])) {
                    next = point;
                }
            }
            return next;
        }

        /** The minute behind the last step through a stretch; NONE, if one can't be done. */
        private int pass(int stretch, boolean up, int minute) {
            int miles = canal.miles[stretch];
            int now = minute;
            if (!rules.isTunnel(stretch)) {
                for (int i = 0; i < miles; i++) {
                    now = step(stretch, MILE, now, 20);
                }
            } else if (miles > 0) {
                now = step(stretch, up ? TUNNEL_UP : TUNNEL_DOWN, now, 20 * miles);
            }
            for (int i = 0; i < canal.locks[stretch]; i++) {
                now = step(stretch, LOCK, now, lockMinutes);
            }
            return now;
        }

        private int step(int stretch, int kind, int minute, int minutes) {
            int begin = begins(stretch, kind, minute);
            if (begin == NONE || begin + minutes >= TIMES) {
                return NONE;
            }
            if (kind == LOCK) {
                locksBegun[begin / DAY]++;
            }
            return begin + minutes;
        }

        private int begins(int stretch, int kind, int minute) {
            if (minute < 0) {
                return NONE;
            }
            for (int day = minute / DAY; day < DAYS; day++) {
                int from = Math.max(8, firstHour(stretch, kind, day));
                int to = Math.min(20, hourBehind(stretch, kind, day));
                int begin = Math.max(minute, day * DAY + from * 60);
                if (begin < day * DAY + to * 60 && !isStopped(stretch, day)) {
                    return begin;
                }
            }
            return NONE;
        }

        private boolean isStopped(int stretch, int day) {
            return heedsStoppages && (canal.stopped[stretch] >> day & 1) != 0;
        }

        private int firstHour(int stretch, int kind, int day) {
            switch (kind) {
                case LOCK: return openFrom[day];
                case TUNNEL_UP: return rules.tunnelFrom[stretch];
                case TUNNEL_DOWN: return rules.tunnelFrom[STRETCHES + stretch];
                default: return 0;
            }
        }

        /** Of a tunnel that is not told for this way 0, so that it never opens. */
        private int hourBehind(int stretch, int kind, int day) {
            switch (kind) {
                case LOCK: return openTo[day];
                case TUNNEL_UP: return rules.tunnelTo[stretch];
                case TUNNEL_DOWN: return rules.tunnelTo[STRETCHES + stretch];
                default: return 24;
            }
        }
    }

    /** The boats, their logs, and what the rules say of them. */
    private static final class Boats {
        private final Canal canal;
        private final Rules rules;
        private final Voyage voyage;
        final int[] berths = new int[BOATS];
        private final int[] age = new int[BOATS];
        final int[] home = new int[BOATS];
        final int[] taught = new int[BOATS];
        int count;
        private final int[][] logPoint = new int[BOATS][LOGS];
        private final int[][] logTime = new int[BOATS][LOGS];
        private final int[] logs = new int[BOATS];
        /** Of each point the boats that may be there, as a set, of the latest settleTonight. */
        final int[] tonightAt = new int[POINTS];

        Boats(Canal canal, Rules rules, Voyage voyage) {
            this.canal = canal;
            this.rules = rules;
            this.voyage = voyage;
        }

        int add(int berths, int age, int home, int taught) {
            if (count >= BOATS) {
                return NONE;
            }
            this.berths[count] = berths;
            this.age[count] = age;
            this.home[count] = home;
            this.taught[count] = taught;
            count++;
            return count - 1;
        }

        int addLog(int boat, int point, int time) {
            int n = logs[boat];
            if (n >= LOGS || n > 0 && time <= logTime[boat][n - 1]) {
                return NONE;
            }
            logPoint[boat][n] = point;
            logTime[boat][n] = time;
            logs[boat] = n + 1;
            return n + 1;
        }

        /** Log NONE stands for the boat at home at time 0. */
        private int placeOf(int boat, int log) {
            return log < 0 ? home[boat] : logPoint[boat][log];
        }

        private int timeOf(int boat, int log) {
            return log < 0 ? 0 : logTime[boat][log];
        }

        boolean canHaveBeen(int boat, int point, int from, int to) {
            for (int log = NONE; log < logs[boat]; log++) {
                if (canBetween(boat, log, point, from, to)) {
                    return true;
                }
            }
            return false;
        }

        /**
         * Whether it can, from this log on and ahead of the next one. Who leaves later never comes
         * earlier, so that only the first minute there has to be looked at.
         */
        private boolean canBetween(int boat, int log, int point, int from, int to) {
            int next = log + 1;
            boolean last = next >= logs[boat];
            int end = last ? TIMES : logTime[boat][next];
            int there = voyage.comesTo(taught[boat], placeOf(boat, log), point, timeOf(boat, log), true);
            int minute = Math.max(there, from);
            if (there == NONE || minute > to || minute >= end) {
                return false;
            }
            if (last) {
                return true;
            }
            int on = voyage.comesTo(taught[boat], point, logPoint[boat][next], minute, true);
            return on != NONE && on <= end;
        }

        void settleTonight(int time) {
            Arrays.fill(tonightAt, 0);
            for (int boat = 0; boat < count; boat++) {
                int log = lastLog(boat, time);
                voyage.reach(taught[boat], placeOf(boat, log), timeOf(boat, log));
                int set = voyage.reached(time);
                for (int point = 0; point < POINTS; point++) {
                    tonightAt[point] |= (set >> point & 1) << boat;
                }
            }
        }

        private int lastLog(int boat, int time) {
            int log = NONE;
            for (int i = 0; i < logs[boat] && logTime[boat][i] <= time; i++) {
                log = i;
            }
            return log;
        }

        int crowd() {
            int best = 0;
            for (int point = 1; point < POINTS; point++) {
                if (Integer.bitCount(tonightAt[point]) > Integer.bitCount(tonightAt[best])) {
                    best = point;
                }
            }
            return best;
        }

        int harmOfLatestWay(int boat) {
            int sum = 0;
            for (int day = 0; day < DAYS; day++) {
                if (voyage.locksBegun[day] > 0) {
                    sum += voyage.locksBegun[day] * harmOfLock(boat, day);
                }
            }
            return sum;
        }

        private int harmOfLock(int boat, int day) {
            rules.askDay(day, canal.water);
            rules.asked[ASK_BERTHS] = berths[boat];
            rules.asked[ASK_AGE] = age[boat];
            rules.asked[ASK_TAUGHT] = taught[boat];
            int line = rules.serving(HARM);
            return line == NONE ? 0 : Math.max(0, Math.min(999, rules.valueOf(line)));
        }

        /** What is asked stays so until the next question: the line's value is taken with it. */
        int priceLine(int boat, int week, boolean away) {
            rules.askWeek(week);
            rules.asked[ASK_BERTHS] = berths[boat];
            rules.asked[ASK_AWAY] = away ? 1 : 0;
            rules.asked[ASK_AGE] = age[boat];
            return rules.serving(PRICE);
        }

        int holdLine(int boat, int depth, int said, int week) {
            rules.askWeek(week);
            rules.asked[ASK_DEPTH] = depth;
            rules.asked[ASK_SAID] = said;
            rules.asked[ASK_AGE] = age[boat];
            return rules.serving(HOLD);
        }
    }

    private static final class Trips {
        private final Boats boats;
        private final Rules rules;
        private final Voyage voyage;
        private final int[] boat = new int[TRIPS];
        private final int[] from = new int[TRIPS];
        private final int[] to = new int[TRIPS];
        private final int[] time = new int[TRIPS];
        private final int[] due = new int[TRIPS];
        int count;

        Trips(Boats boats, Rules rules, Voyage voyage) {
            this.boats = boats;
            this.rules = rules;
            this.voyage = voyage;
        }

        int add(int boat, int from, int to, int time, int due) {
            if (count >= TRIPS) {
                return NONE;
            }
            this.boat[count] = boat;
            this.from[count] = from;
            this.to[count] = to;
            this.time[count] = time;
            this.due[count] = due;
            count++;
            return count - 1;
        }

        int lateBy(int k, boolean heeding) {
            int minute = voyage.comesTo(boats.taught[boat[k]], from[k], to[k], time[k], heeding);
            return minute == NONE ? TIMES : Math.max(0, minute - due[k]);
        }

        int howManyLate() {
            int late = 0;
            for (int k = 0; k < count; k++) {
                if (lateBy(k, true) > 0) {
                    late++;
                }
            }
            return late;
        }

        int turningBack(int k) {
            int farthest = NOTHING;
            int way = to[k] < from[k] ? -1 : 1;
            int stretches = Math.abs(to[k] - from[k]);
            for (int n = 0; n <= stretches; n++) {
                int point = from[k] + n * way;
                if (isBackInTime(k, point)) {
                    farthest = point;
                }
            }
            return farthest;
        }

        private boolean isBackInTime(int k, int point) {
            int taught = boats.taught[boat[k]];
            int there = voyage.comesTo(taught, from[k], point, time[k], true);
            if (there == NONE) {
                return false;
            }
            int again = voyage.comesTo(taught, point, from[k], there, true);
            return again != NONE && again <= due[k];
        }

        int refund(int k) {
            int late = lateBy(k, true);
            if (late == 0) {
                return 0;
            }
            int line = boats.priceLine(boat[k], time[k] / DAY / 7, from[k] != to[k]);
            if (line == NONE) {
                return NOTHING;
            }
            // Only the rules' own numbers wrap, so that this product is a long.
            long days = Math.min(7, (late + DAY - 1) / DAY);
            return (int) (rules.valueOf(line) * days / 7);
        }
    }

    /** The boats at a lock; the best order is found anew as each one comes. */
    private static final class LockQueue {
        private final int[] minute = new int[QUEUED];
        private final int[] way = new int[QUEUED];
        int count;
        int waitAsCome;
        int bestWait;
        private final int[] order = new int[QUEUED];
        private final int[] best = new int[QUEUED];

        void clear() {
            count = 0;
            waitAsCome = 0;
            bestWait = 0;
        }

        int add(int minute, int way) {
            if (count >= QUEUED || count > 0 && minute < this.minute[count - 1]) {
                return NONE;
            }
            this.minute[count] = minute;
            this.way[count] = way;
            count++;
            findBest();
            return count;
        }

        /** The order as they come is the first of all, so that only less waiting beats it. */
        private void findBest() {
            for (int i = 0; i < count; i++) {
                best[i] = i;
            }
            waitAsCome = waitOf(best);
            bestWait = waitAsCome;
            putNext(this, 0, 0, 0, 0);
        }

        private int waitOf(int[] boats) {
            int wait = 0;
            int through = 0;
            for (int i = 0; i < count; i++) {
                int begin = Math.max(minute[boats[i]], through);
                wait += begin - minute[boats[i]];
                through = begin + minutesOf(boats, i);
            }
            return wait;
        }

        private int minutesOf(int[] boats, int i) {
            return i > 0 && way[boats[i]] == way[boats[i - 1]] ? 20 : 15;
        }

        /** The i-th of an order, behind those that are put already. */
        private static void putNext(LockQueue q, int i, int put, int through, int wait) {
            if (i >= q.count) {
                q.bestWait = wait;
                System.arraycopy(q.order, 0, q.best, 0, q.count);
                return;
            }
            for (int boat = 0; boat < q.count; boat++) {
                int begin = Math.max(q.minute[boat], through);
                int waitThen = wait + begin - q.minute[boat];
                if ((put >> boat & 1) == 0 && waitThen < q.bestWait) {
                    q.order[i] = boat;
                    putNext(q, i + 1, put | 1 << boat, begin + q.minutesOf(q.order, i), waitThen);
                }
            }
        }

        int lockfulsAsCome() {
            int lockfuls = count;
            for (int i = 1; i < count; i++) {
                lockfuls -= way[i] == way[i - 1] ? 0 : 1;
            }
            return lockfuls;
        }

        int lockfulsAtBest() {
            int lockfuls = count;
            for (int i = 1; i < count; i++) {
                lockfuls -= way[best[i]] == way[best[i - 1]] ? 0 : 1;
            }
            return lockfuls;
        }

        int atBest(int what) {
            return within(what - 10, 0, count - 1) ? best[what - 10] : NONE;
        }
    }

    /** Who gets which boat. Bookings are gone through by week, then number. */
    private static final class Bookings {
        private final int[] from = new int[BOOKINGS];
        private final int[] to = new int[BOOKINGS];
        private final int[] week = new int[BOOKINGS];
        private final int[] berths = new int[BOOKINGS];
        int count;
        private final int[] inOrder = new int[BOOKINGS];
        /* The boats that are asked: where each is now, and the last week in which it is given. */
        private final int[] boatBerths = new int[ASKED_BOATS];
        private final int[] boatHome = new int[ASKED_BOATS];
        private final int[] boatAt = new int[ASKED_BOATS];
        private final int[] boatWeek = new int[ASKED_BOATS];
        private int asked;
        /** For how many boats the best way is known already: 0, if it has to be looked for. */
        private int settled;
        /** From each place in the order on, how many bookings some boat may be given at all. */
        private final int[] hope = new int[BOOKINGS + 1];
        private final int[] boatOf = new int[BOOKINGS];
        final int[] bestBoat = new int[BOOKINGS];
        int bestServed;
        int bestHome;

        int add(int from, int to, int week, int berths) {
            if (count >= BOOKINGS) {
                return NONE;
            }
            this.from[count] = from;
            this.to[count] = to;
            this.week[count] = week;
            this.berths[count] = berths;
            count++;
            settled = 0;
            putInOrder();
            return count - 1;
        }

        private void putInOrder() {
            int n = 0;
            for (int w = 0; w < WEEKS; w++) {
                for (int i = 0; i < count; i++) {
                    if (week[i] == w) {
                        inOrder[n] = i;
                        n++;
                    }
                }
            }
        }

        void hire(int boat, int berths, int home) {
            if (boatBerths[boat] != berths || boatHome[boat] != home) {
                settled = 0;
            }
            boatBerths[boat] = berths;
            boatHome[boat] = home;
        }

        void giveBest(int boats) {
            if (boats == settled) {
                return;
            }
            asked = Math.min(boats, ASKED_BOATS);
            settled = boats;
            bestServed = NONE;
            bestHome = NONE;
            for (int boat = 0; boat < asked; boat++) {
                boatAt[boat] = boatHome[boat];
                boatWeek[boat] = NONE;
            }
            hope[count] = 0;
            for (int i = count - 1; i >= 0; i--) {
                hope[i] = hope[i + 1] + (canEverBeGiven(inOrder[i]) ? 1 : 0);
            }
            giveNext(this, 0, 0);
        }

        private boolean canEverBeGiven(int booking) {
            for (int boat = 0; boat < asked; boat++) {
                if (boatBerths[boat] >= berths[booking] && canCome(boat, booking)) {
                    return true;
                }
            }
            return false;
        }

        /** Whether a boat can be where the booking begins: from home, or by one of an earlier week. */
        private boolean canCome(int boat, int booking) {
            if (boatHome[boat] == from[booking]) {
                return true;
            }
            for (int i = 0; i < count; i++) {
                if (week[i] < week[booking] && to[i] == from[booking]) {
                    return true;
                }
            }
            return false;
        }

        /** Ways come in their order, so that only a better one takes the best one's place. */
        private static void giveNext(Bookings all, int i, int served) {
            int hoped = served + all.hope[i];
            if (hoped < all.bestServed || hoped == all.bestServed && all.bestHome >= all.asked) {
                return;
            }
            if (i >= all.count) {
                all.compare(served);
                return;
            }
            int booking = all.inOrder[i];
            for (int boat = 0; boat < all.asked; boat++) {
                if (all.canHave(boat, booking)) {
                    int at = all.boatAt[boat];
                    int last = all.boatWeek[boat];
                    all.boatOf[booking] = boat;
                    all.boatAt[boat] = all.to[booking];
                    all.boatWeek[boat] = all.week[booking];
                    giveNext(all, i + 1, served + 1);
                    all.boatAt[boat] = at;
                    all.boatWeek[boat] = last;
                }
            }
            all.boatOf[booking] = NONE;
            giveNext(all, i + 1, served);
        }

        private boolean canHave(int boat, int booking) {
            return boatBerths[boat] >= berths[booking] && boatAt[boat] == from[booking]
                && boatWeek[boat] < week[booking];
        }

        private void compare(int served) {
            int home = 0;
            for (int boat = 0; boat < asked; boat++) {
                home += boatAt[boat] == boatHome[boat] ? 1 : 0;
            }
            if (served > bestServed || served == bestServed && home > bestHome) {
                bestServed = served;
                bestHome = home;
                System.arraycopy(boatOf, 0, bestBoat, 0, count);
            }
        }
    }

    /** Ashore: the dock and the turning round. */
    private static final class Yard {
        private static final int BEGIN = 600;
        private static final int OVER = 900;

        private final int[] date = new int[BOATS];
        /** 0 of a boat that is not told for the dock. */
        private final int[] days = new int[BOATS];
        int docked;
        private final int[] dockBoat = new int[DOCKED];
        /* Of each set of boats that are done already: the best that the others can come to. */
        final int[] dockLate = new int[1 << DOCKED];
        final int[] dockSum = new int[1 << DOCKED];
        private final int[] dockNext = new int[1 << DOCKED];
        int jobs;
        private final int[] minutes = new int[JOBS];
        private final int[] handEnd = new int[HANDS];
        private final int[] hand = new int[JOBS];
        final int[] bestHand = new int[JOBS];
        int bestEnd;
        int workedEnd;
        int over;

        boolean tellDock(int boat, int date, int days) {
            // Seven others refuse it with no days, too: the document makes no difference.
            if (othersInDock(boat) >= DOCKED) {
                return false;
            }
            this.date[boat] = date;
            this.days[boat] = days;
            return true;
        }

        private int othersInDock(int boat) {
            int others = 0;
            for (int i = 0; i < BOATS; i++) {
                others += i != boat && days[i] > 0 ? 1 : 0;
            }
            return others;
        }

        /** When those of a set are done is the same in every order: so the best is made from the end. */
        void orderDock() {
            docked = 0;
            for (int boat = 0; boat < BOATS; boat++) {
                if (days[boat] > 0 && docked < DOCKED) {
                    dockBoat[docked] = boat;
                    docked++;
                }
            }
            int all = (1 << docked) - 1;
            dockLate[all] = 0;
            dockSum[all] = 0;
            for (int done = all - 1; done >= 0; done--) {
                chooseNext(done);
            }
        }

        private void chooseNext(int done) {
            int today = 0;
            for (int i = 0; i < docked; i++) {
                today += (done >> i & 1) != 0 ? days[dockBoat[i]] : 0;
            }
            dockNext[done] = NONE;
            for (int i = 0; i < docked; i++) {
                if ((done >> i & 1) == 0) {
                    int day = today + days[dockBoat[i]];
                    int late = dockLate[done | 1 << i] + (day > date[dockBoat[i]] ? 1 : 0);
                    int sum = dockSum[done | 1 << i] + day;
                    if (isBetter(done, late, sum)) {
                        dockLate[done] = late;
                        dockSum[done] = sum;
                        dockNext[done] = i;
                    }
                }
            }
        }

        private boolean isBetter(int done, int late, int sum) {
            return dockNext[done] == NONE || late < dockLate[done]
                || late == dockLate[done] && sum < dockSum[done];
        }

        int dockedAt(int what) {
            if (!within(what - 10, 0, docked - 1)) {
                return NONE;
            }
            int done = 0;
            for (int i = 0; i < what - 10; i++) {
                done |= 1 << dockNext[done];
            }
            return dockBoat[dockNext[done]];
        }

        int addJob(int minutes) {
            if (jobs >= JOBS) {
                return NONE;
            }
            this.minutes[jobs] = minutes;
            jobs++;
            return jobs;
        }

        void workInOrder(int hands) {
            Arrays.fill(handEnd, BEGIN);
            workedEnd = BEGIN;
            over = 0;
            for (int j = 0; j < jobs; j++) {
                int free = 0;
                for (int h = 1; h < hands; h++) {
                    free = handEnd[h] < handEnd[free] ? h : free;
                }
                handEnd[free] += minutes[j];
                workedEnd = Math.max(workedEnd, handEnd[free]);
                over += handEnd[free] > OVER ? 1 : 0;
            }
        }

        void shareBest(int hands) {
            Arrays.fill(handEnd, BEGIN);
            bestEnd = BEGIN + JOBS * LONGEST_JOB + 1;
            shareNext(this, 0, hands, BEGIN);
        }

        /** Ways come in their order, so that only an earlier end takes the best one's place. */
        private static void shareNext(Yard yard, int j, int hands, int end) {
            if (end >= yard.bestEnd) {
                return;
            }
            if (j >= yard.jobs) {
                yard.bestEnd = end;
                System.arraycopy(yard.hand, 0, yard.bestHand, 0, yard.jobs);
                return;
            }
            for (int h = 0; h < hands; h++) {
                yard.hand[j] = h;
                yard.handEnd[h] += yard.minutes[j];
                shareNext(yard, j + 1, hands, Math.max(end, yard.handEnd[h]));
                yard.handEnd[h] -= yard.minutes[j];
            }
        }
    }

    /** What goes by road: where the van should stand, and who takes the calls. */
    private static final class Vans {
        private final Canal canal;
        final int[] weight = new int[POINTS];
        /** How far each point is by road from the first one, of the latest measure. */
        private final int[] along = new int[POINTS];
        int couple;
        int coupleSum;
        int calls;
        private final int[] callMinute = new int[CALLS];
        private final int[] callPoint = new int[CALLS];
        private final int[] callWork = new int[CALLS];
        private final int[] taker = new int[CALLS];
        private final int[] vanAt = new int[2];
        private final int[] vanFree = new int[2];
        int waitSum;
        int waitLongest;
        int lastDone;

        Vans(Canal canal) {
            this.canal = canal;
        }

        /** To be called ahead of every question: the roads can have changed. */
        void measure() {
            for (int i = 0; i < STRETCHES; i++) {
                along[i + 1] = along[i] + canal.road[i];
            }
        }

        private int minutes(int a, int b) {
            return Math.abs(along[a] - along[b]);
        }

        /** From the nearer one of two points. */
        int sumFrom(int a, int b) {
            int sum = 0;
            for (int point = 0; point < POINTS; point++) {
                sum += weight[point] * Math.min(minutes(a, point), minutes(b, point));
            }
            return sum;
        }

        int bestPoint() {
            int best = 0;
            for (int point = 1; point < POINTS; point++) {
                best = sumFrom(point, point) < sumFrom(best, best) ? point : best;
            }
            return best;
        }

        int worstFrom(int from) {
            int worst = 0;
            for (int point = 0; point < POINTS; point++) {
                worst = weight[point] > 0 ? Math.max(worst, minutes(from, point)) : worst;
            }
            return worst;
        }

        void findCouple() {
            couple = 0;
            coupleSum = sumFrom(0, 0);
            for (int a = 0; a < POINTS; a++) {
                for (int b = a; b < POINTS; b++) {
                    int sum = sumFrom(a, b);
                    if (sum < coupleSum) {
                        couple = POINTS * a + b;
                        coupleSum = sum;
                    }
                }
            }
        }

        int addCall(int minute, int point, int work) {
            if (calls >= CALLS || calls > 0 && minute < callMinute[calls - 1]) {
                return NONE;
            }
            callMinute[calls] = minute;
            callPoint[calls] = point;
            callWork[calls] = work;
            calls++;
            return calls;
        }

        void takeCalls(int a, int b) {
            vanAt[0] = a;
            vanAt[1] = b;
            Arrays.fill(vanFree, 0);
            waitSum = 0;
            waitLongest = 0;
            lastDone = 0;
            for (int i = 0; i < calls; i++) {
                int van = comesAt(1, i) < comesAt(0, i) ? 1 : 0;
                int there = comesAt(van, i);
                taker[i] = van;
                vanAt[van] = callPoint[i];
                vanFree[van] = there + callWork[i];
                waitSum += there - callMinute[i];
                waitLongest = Math.max(waitLongest, there - callMinute[i]);
                lastDone = Math.max(lastDone, vanFree[van]);
            }
        }

        private int comesAt(int van, int i) {
            return Math.max(callMinute[i], vanFree[van]) + minutes(vanAt[van], callPoint[i]);
        }

        int takerOf(int what) {
            return within(what - 10, 0, calls - 1) ? taker[what - 10] : NONE;
        }
    }

    /** How many of a million chances have the water at each level and were never below. */
    private static final class Rain {
        private int[] now = new int[LEVELS];
        private int[] then = new int[LEVELS];
        int kept;

        void start(int water, int shut) {
            Arrays.fill(now, 0);
            kept = water < shut ? 0 : CHANCES;
            now[water] = kept;
        }

        void passDay(int use, int rain, int gain, int shut) {
            Arrays.fill(then, 0);
            for (int level = 0; level < LEVELS; level++) {
                if (now[level] > 0) {
                    int wet = now[level] * rain / 100;
                    int low = Math.max(0, level - use);
                    then[Math.min(LEVELS - 1, low + gain)] += wet;
                    then[low] += now[level] - wet;
                }
            }
            kept = 0;
            for (int level = 0; level < LEVELS; level++) {
                then[level] = level < shut ? 0 : then[level];
                kept += then[level];
            }
            int[] old = now;
            now = then;
            then = old;
        }
    }
}
