/**
 * The boundaries that promises 25 to 40 name: for each sentence the last value that is taken and
 * the first one that is not, the empty and the full.
 */
public final class BoundsAshore {
    private static final int NONE = -1;
    private static final int LEAST = Integer.MIN_VALUE;
    private static final int MOST = Integer.MAX_VALUE;
    private static int wrong = 0;

    private static void due(String what, long got, long want) {
        if (got != want) {
            wrong++;
            System.out.println(what + " answered " + got + ", due is " + want);
        }
    }

    private static void due(String what, boolean got, boolean want) {
        due(what, got ? 1 : 0, want ? 1 : 0);
    }

    public static void main(String[] args) {
        queueNumbers();
        sevenInTheQueue();
        emptyQueue();
        beginsWhenItHasCome();
        fiveMoreTheSameWay();
        bestOrder();
        lockfuls();
        bookingNumbers();
        eightBookings();
        firstBoats();
        asManyBerths();
        oneInAWeek();
        mostServedThenHome();
        firstWay();
        oneMore();
        dockNumbers();
        sevenInTheDock();
        emptyDock();
        lateBehindItsDate();
        bestInTheDock();
        jobNumbers();
        eightJobs();
        hands();
        overAt900();
        noJobs();
        weights();
        vanPoints();
        withoutWeights();
        worst();
        twoVans();
        callNumbers();
        twelveCalls();
        firstOfBoth();
        withoutCalls();
        weather();
        lockfulsThatGo();
        lockfulsThatCome();
        downwards();
        outForGood();
        fewerThanHalf();
        System.out.println(wrong == 0 ? "all answers are as due" : wrong + " answers are not as due");
        if (wrong != 0) {
            System.exit(1);
        }
    }

    /** Terms 4: "a minute of coming (0 .. 9999, not falling) and a way (1 up, 0 down)". */
    private static void queueNumbers() {
        WeekBoats x = new WeekBoats();
        int[][] bad = {{-1, 0}, {10000, 0}, {5, 2}, {5, -2}, {LEAST, 0}, {MOST, 1}, {5, LEAST}, {5, MOST}};
        for (int[] b : bad) {
            due("queue " + b[0] + " " + b[1], x.queue(b[0], b[1]), NONE);
            due("nobody", x.look(4), 0);
        }
        due("minute 0", x.queue(0, 0), 1);
        due("again", x.queue(0, 1), 2);
        due("minute 7", x.queue(7, 1), 3);
        due("falling by one", x.queue(6, 1), NONE);
        due("three", x.look(4), 3);
        due("minute 9999", x.queue(9999, 0), 4);
        due("not above it", x.queue(10000, 0), NONE);
        due("minute 9999 again", x.queue(9999, 0), 5);
        due("falling", x.queue(9998, 0), NONE);
        due("and the other way", x.queue(9999, 1), 6);
        // begin at 0, 15, 30, 9999, 10014, 10034
        due("wait", x.lock(0), 0 + 15 + 23 + 0 + 15 + 35);
    }

    /** Terms 4: "up to seven BOATS"; promise 25: "NONE if .. there are seven". */
    private static void sevenInTheQueue() {
        WeekBoats x = new WeekBoats();
        for (int n = 1; n <= 7; n++) {
            due("queue " + n, x.queue(n, n % 2), n);
        }
        int wait = x.lock(0);
        due("an eighth", x.queue(8, 1), NONE);
        due("an eighth of a bad way", x.queue(8, 2), NONE);
        due("seven", x.look(4), 7);
        due("as it was", x.lock(0), wait);
        due("no eighth", x.lock(17), NONE);
        due("empty", x.queue(0, NONE), 0);
        due("room again", x.queue(0, 1), 1);
    }

    /** Promise 25: "way NONE: it is empty then"; promise 26: "NONE if there is none such (empty: 10 and more)". */
    private static void emptyQueue() {
        WeekBoats x = new WeekBoats();
        for (int round = 0; round < 2; round++) {
            for (int what = 0; what < 4; what++) {
                due("empty: " + what, x.lock(what), 0);
            }
            for (int what : new int[] {10, 11, 16, 17, 4, 9, -1, LEAST, MOST}) {
                due("empty: " + what, x.lock(what), NONE);
            }
            due("one", x.queue(50, 1), 1);
            due("two", x.queue(50, 1), 2);
            due("waits", x.lock(0), 15);
            due("waits at best", x.lock(1), 15);
            due("lockfuls", x.lock(2), 2);
            due("who", x.lock(11), 1);
            due("no third", x.lock(12), NONE);
            due("empty again", x.queue(50, NONE), 0);
            due("empty once more", x.queue(0, NONE), 0);
        }
    }

    /** Terms 4: "each one begins when it has come and the one ahead is through". */
    private static void beginsWhenItHasCome() {
        WeekBoats x = new WeekBoats();
        x.queue(100, 0);
        x.queue(115, 1);
        due("just through", x.lock(0), 0);
        x.queue(129, 0);
        due("a minute too soon", x.lock(0), 1);
        x.queue(200, 1);
        due("long through", x.lock(0), 1);
        x.queue(200, 0);
        due("as come", x.lock(0), 1 + 15);
    }

    /** Terms 4: "15 minutes, 5 more if the one ahead went the same way (the first one not)". */
    private static void fiveMoreTheSameWay() {
        for (int way = 0; way < 2; way++) {
            WeekBoats x = new WeekBoats();
            x.queue(0, way);
            x.queue(0, way);
            due("the first one takes 15", x.lock(0), 15);
            x.queue(0, way);
            due("the second takes 20", x.lock(0), 15 + 35);
            x.queue(0, 1 - way);
            due("the third takes 20", x.lock(0), 15 + 35 + 55);
            x.queue(0, way);
            due("the fourth takes 15", x.lock(0), 15 + 35 + 55 + 70);
        }
    }

    /** Terms 4: "BEST: of all orders the least WAIT, of several the first (orders by numbers)". */
    private static void bestOrder() {
        WeekBoats x = new WeekBoats();
        int[][] boats = {{5000, 1}, {5000, 1}, {5002, 0}, {5040, 0}};
        for (int[] b : boats) {
            x.queue(b[0], b[1]);
        }
        // as they come: 5000, 5015, 5035, 5050; with 2 ahead of 1: 5000, 5015, 5030, 5045
        due("as they come", x.lock(0), 15 + 33 + 10);
        due("at best", x.lock(1), 13 + 30 + 5);
        int[] best = {0, 2, 1, 3};
        for (int i = 0; i < 4; i++) {
            due("best " + i, x.lock(10 + i), best[i]);
        }
        WeekBoats y = new WeekBoats();
        for (int n = 0; n < 7; n++) {
            y.queue(30, 0);
        }
        due("all the same way", y.lock(0), y.lock(1));
        for (int i = 0; i < 7; i++) {
            due("the order told is the first", y.lock(10 + i), i);
        }
        WeekBoats z = new WeekBoats();
        int[] ways = {1, 1, 1, 0, 0, 0, 0};
        for (int way : ways) {
            z.queue(9999, way);
        }
        // by turns each takes 15, and of the last one it does not matter
        due("by turns", z.lock(1), 15 * 21);
        int[] turns = {0, 3, 1, 4, 2, 5, 6};
        for (int i = 0; i < 7; i++) {
            due("by turns " + i, z.lock(10 + i), turns[i]);
        }
    }

    /** Terms 4: "one for each, less one for each that goes the other way than the one ahead of it". */
    private static void lockfuls() {
        int[][] ways = {{1}, {1, 1}, {1, 0}, {0, 1, 0}, {1, 1, 0}, {0, 0, 0, 0, 0, 0, 0}, {1, 0, 1, 0, 1, 0, 1}, {1, 1, 0, 0, 1, 1, 0}};
        int[] come = {1, 2, 1, 1, 2, 7, 1, 4};
        int[] best = {1, 2, 1, 1, 1, 7, 1, 1};
        for (int i = 0; i < ways.length; i++) {
            WeekBoats x = new WeekBoats();
            for (int way : ways[i]) {
                x.queue(77, way);
            }
            due("lockfuls as they come, " + i, x.lock(2), come[i]);
            due("lockfuls at best, " + i, x.lock(3), best[i]);
        }
        WeekBoats y = new WeekBoats();
        y.queue(0, 1);
        y.queue(15, 1);
        y.queue(35, 0);
        y.queue(50, 0);
        y.queue(70, 1);
        due("nobody waits", y.lock(1), 0);
        due("lockfuls of it", y.lock(3), 3);
    }

    /** Promise 27: "from, to (POINTS), a WEEK 0 .. 9, BERTHS": "NONE if one can't be". */
    private static void bookingNumbers() {
        WeekBoats x = new WeekBoats();
        int[][] bad = {{-1, 3, 3, 3}, {16, 3, 3, 3}, {3, -1, 3, 3}, {3, 16, 3, 3}, {3, 3, -1, 3}, {3, 3, 10, 3}, {3, 3, 3, 1},
            {3, 3, 3, 13}, {LEAST, 3, 3, 3}, {3, MOST, 3, 3}, {3, 3, LEAST, 3}, {3, 3, 3, MOST}, {3, 3, 3, 0}};
        for (int[] b : bad) {
            due("booking " + b[0] + " " + b[1] + " " + b[2] + " " + b[3], x.booking(b[0], b[1], b[2], b[3]), NONE);
            due("none", x.look(2), 0);
        }
        x.boat(12, 0, 0, 0);
        due("the least of all", x.booking(0, 0, 0, 2), 0);
        due("the most of all", x.booking(0, 15, 9, 12), 1);
        due("both are served", x.given(1, 0), 2);
        due("it is at 15", x.given(1, 1), 0);
    }

    /** Promise 27: "its number; NONE if .. there are eight". */
    private static void eightBookings() {
        WeekBoats x = new WeekBoats();
        x.boat(12, 0, 0, 0);
        for (int n = 0; n < 8; n++) {
            due("booking " + n, x.booking(0, 0, n, 2), n);
        }
        due("a ninth", x.booking(0, 0, 8, 2), NONE);
        due("eight", x.look(2), 8);
        due("eight are served", x.given(1, 0), 8);
        due("the last one", x.given(1, 17), 0);
        due("no ninth", x.given(1, 18), NONE);
    }

    /** Promise 28: "NONE if there are not so many BOATS, one can't be, or another what"; k 1 .. 4. */
    private static void firstBoats() {
        WeekBoats x = new WeekBoats();
        due("no boat", x.given(1, 0), NONE);
        for (int k = 1; k <= 5; k++) {
            x.boat(4, 0, k, 0);
            due("as many as there are", x.given(k, 0), k > 4 ? NONE : 0);
            due("all at home", x.given(k, 1), k > 4 ? NONE : k);
            due("one more than there are", x.given(k + 1, 0), NONE);
        }
        for (int k : new int[] {0, -1, 5, LEAST, MOST}) {
            due("k " + k, x.given(k, 0), NONE);
        }
        due("no bookings", x.given(4, 10), NONE);
        x.booking(5, 5, 0, 2);
        due("one booking, of a boat that is not asked", x.given(4, 10), NONE);
        x.booking(4, 4, 0, 2);
        due("the fourth boat", x.given(4, 11), 3);
        due("three boats have it not", x.given(3, 11), NONE);
        due("no third one", x.given(4, 12), NONE);
        for (int what : new int[] {-1, 2, 9, 18, LEAST, MOST}) {
            due("what " + what, x.given(4, what), NONE);
        }
    }

    /** Terms 4: "given to a BOAT with as many BERTHS that is where it begins". */
    private static void asManyBerths() {
        for (int berths = 2; berths <= 12; berths++) {
            WeekBoats x = new WeekBoats();
            x.boat(berths, 0, 7, 0);
            x.booking(7, 7, 0, berths);
            due("just as many", x.given(1, 0), 1);
            if (berths < 12) {
                x.booking(7, 7, 1, berths + 1);
                due("one too few", x.given(1, 0), 1);
                due("not given", x.given(1, 11), NONE);
            }
            x.booking(7, 7, 2, 2);
            due("more than asked for", x.given(1, 0), 2);
            x.booking(6, 6, 3, 2);
            x.booking(8, 8, 3, 2);
            due("not elsewhere", x.given(1, 0), 2);
        }
    }

    /** Terms 4: "(it has no other one in this WEEK)"; "at the end of the BOOKING behind that WEEK". */
    private static void oneInAWeek() {
        WeekBoats x = new WeekBoats();
        x.boat(4, 0, 0, 0);
        x.booking(0, 1, 3, 2);
        x.booking(1, 0, 3, 2);
        due("not two of a week", x.given(1, 0), 1);
        due("the first", x.given(1, 10), 0);
        due("away", x.given(1, 1), 0);
        x.booking(1, 0, 4, 2);
        due("the week behind", x.given(1, 0), 2);
        due("the third", x.given(1, 12), 0);
        due("home", x.given(1, 1), 1);
        WeekBoats y = new WeekBoats();
        y.boat(4, 0, 0, 0);
        y.booking(1, 0, 9, 2);
        y.booking(0, 1, 8, 2);
        due("weeks go before numbers", y.given(1, 0), 2);
        WeekBoats z = new WeekBoats();
        z.boat(4, 0, 0, 0);
        z.booking(0, 0, 0, 2);
        z.booking(0, 0, 9, 2);
        z.booking(0, 0, 9, 2);
        due("weeks 0 and 9", z.given(1, 0), 2);
        due("the first of week 9", z.given(1, 11), 0);
        due("not the second", z.given(1, 12), NONE);
    }

    /** Terms 4: "BEST: most served, then most BOATS at HOME at the end". */
    private static void mostServedThenHome() {
        WeekBoats x = new WeekBoats();
        x.boat(4, 0, 0, 0);
        x.booking(0, 1, 0, 2);
        due("served and away", x.given(1, 0), 1);
        due("none at home", x.given(1, 1), 0);
        x.boat(4, 0, 1, 0);
        due("boat 1 is at home", x.given(2, 1), 1);
        x.booking(1, 0, 1, 2);
        due("both served", x.given(2, 0), 2);
        due("boat 0 comes home itself", x.given(2, 11), 0);
        due("both at home", x.given(2, 1), 2);
        x.booking(0, 0, 0, 2);
        due("as many served, and the same at home", x.given(2, 0), 2);
        due("the first way", x.given(2, 10), 0);
        due("not the third", x.given(2, 12), NONE);
        x.booking(0, 0, 1, 2);
        x.booking(0, 0, 2, 2);
        // 0 by boat 0, then 1 by boat 0 home, then 4; or 2, 3, 4 by boat 0
        due("three", x.given(1, 0), 3);
        due("the first way of both", x.given(1, 10), 0);
        due("the first way of both", x.given(1, 11), 0);
        due("home", x.given(1, 1), 1);
    }

    /** Terms 4: "then the first way (by BOOKINGS as gone through, none last, BOATS by numbers)". */
    private static void firstWay() {
        WeekBoats x = new WeekBoats();
        for (int b = 0; b < 4; b++) {
            x.boat(4, 0, 0, 0);
        }
        x.booking(0, 0, 5, 2);
        x.booking(0, 0, 0, 2);
        x.booking(0, 0, 0, 2);
        x.booking(0, 0, 0, 2);
        x.booking(0, 0, 0, 2);
        x.booking(0, 0, 0, 2);
        int[] boats = {0, 0, 1, 2, 3, NONE};
        for (int b = 0; b < 6; b++) {
            due("boat of " + b, x.given(4, 10 + b), boats[b]);
        }
        due("five of six", x.given(4, 0), 5);
        WeekBoats y = new WeekBoats();
        y.boat(4, 0, 0, 0);
        y.boat(4, 0, 0, 0);
        y.booking(0, 1, 1, 2);
        y.booking(0, 1, 0, 2);
        due("that of week 0 goes first", y.given(2, 11), 0);
        due("then that of week 1", y.given(2, 10), 1);
        WeekBoats z = new WeekBoats();
        z.boat(4, 0, 0, 0);
        z.booking(0, 0, 0, 2);
        z.booking(0, 1, 0, 2);
        z.booking(1, 0, 1, 2);
        z.booking(0, 0, 1, 2);
        due("two either way, and home", z.given(1, 0) + z.given(1, 1), 3);
        int[] boat = {0, NONE, NONE, 0};
        for (int b = 0; b < 4; b++) {
            due("none is last, " + b, z.given(1, 10 + b), boat[b]);
        }
    }

    /** Promise 29: "k 1 .. 3 BOATS; NONE if there are not so many, or one can't be". */
    private static void oneMore() {
        WeekBoats x = new WeekBoats();
        for (int n = 0; n < 4; n++) {
            x.booking(0, 0, 0, 2 + n);
        }
        due("no boat", x.more(1, 5, 0), NONE);
        for (int k = 1; k <= 4; k++) {
            x.boat(2 + k, 0, 0, 0);
            due("just so many", x.more(k, 12, 0), k > 3 ? NONE : 1);
            due("too few berths for any other", x.more(k, 2, 1), k > 3 ? NONE : 0);
            due("one too many", x.more(k + 1, 12, 0), NONE);
        }
        int[][] bad = {{0, 5, 0}, {4, 5, 0}, {-1, 5, 0}, {1, 1, 0}, {1, 13, 0}, {1, 5, -1}, {1, 5, 16}, {LEAST, 5, 0}, {MOST, 5, 0},
            {1, LEAST, 0}, {1, MOST, 0}, {1, 5, LEAST}, {1, 5, MOST}};
        for (int[] b : bad) {
            due("more " + b[0] + " " + b[1] + " " + b[2], x.more(b[0], b[1], b[2]), NONE);
        }
        due("berths 2", x.more(1, 2, 0), 1);
        due("berths 12", x.more(3, 12, 0), 1);
        due("home 15", x.more(1, 12, 15), 0);
        x.booking(15, 15, 9, 12);
        due("at home 15", x.more(1, 12, 15), 1);
        due("it is none of the boats", x.look(0), 4);
        due("nor asked", x.given(4, 14), NONE);
    }

    /** Promise 30: "false if one can't be"; Terms 4: "a DATE (0 .. 999) and DAYS (1 .. 60)". */
    private static void dockNumbers() {
        WeekBoats x = new WeekBoats();
        x.boat(4, 0, 0, 0);
        int[][] bad = {{-1, 5, 5}, {1, 5, 5}, {0, -1, 5}, {0, 1000, 5}, {0, 5, -1}, {0, 5, 61}, {LEAST, 5, 5}, {0, MOST, 5},
            {0, 5, LEAST}, {0, 5, MOST}, {-1, 5, 0}, {1, 5, 0}, {0, -1, 0}, {0, 1000, 0}, {0, LEAST, 0}, {0, MOST, 0}};
        for (int told = 0; told < 2; told++) {
            for (int[] b : bad) {
                due("gas " + b[0] + " " + b[1] + " " + b[2], x.gas(b[0], b[1], b[2]), false);
                due("in the dock", x.dock(2), told);
                due("its days", x.dock(1), told * 7);
            }
            due("told", x.gas(0, 6, 7), true);
            due("late by one", x.dock(0), 1);
        }
        due("one day", x.gas(0, 0, 1), true);
        due("done on day 1", x.dock(1), 1);
        due("behind date 0", x.dock(0), 1);
        due("60 days", x.gas(0, 999, 60), true);
        due("done on day 60", x.dock(1), 60);
        due("not behind date 999", x.dock(0), 0);
        due("not told any more", x.gas(0, 999, 0), true);
        due("none", x.dock(2), 0);
        due("not told, once more", x.gas(0, 0, 0), true);
    }

    /** Terms 4: "(seven at most)"; promise 30: "false if .. there are seven others". */
    private static void sevenInTheDock() {
        WeekBoats x = new WeekBoats();
        for (int b = 0; b < 10; b++) {
            x.boat(4, 0, 0, 0);
        }
        for (int n = 0; n < 7; n++) {
            due("boat " + (9 - n), x.gas(9 - n, 999, 60), true);
            due("boats", x.dock(2), n + 1);
        }
        due("60 days each", x.dock(1), 60 * 28);
        due("an eighth", x.gas(2, 999, 1), false);
        due("a ninth", x.gas(0, 999, 1), false);
        due("nor with no days", x.gas(2, 999, 0), false);
        due("nor the ninth so", x.gas(0, 0, 0), false);
        due("seven", x.dock(2), 7);
        due("one of the seven anew", x.gas(3, 999, 1), true);
        due("seven", x.dock(2), 7);
        due("it goes first", x.dock(10), 3);
        due("one less", x.gas(9, 999, 0), true);
        due("the last of six", x.dock(15), 8);
        due("no seventh", x.dock(16), NONE);
        due("with no days beside six", x.gas(2, 999, 0), true);
        due("six", x.dock(2), 6);
        due("now it can", x.gas(2, 999, 1), true);
        due("the first of the two", x.dock(10), 2);
        due("not the one that is gone", x.gas(9, 999, 1), false);
        due("nor another", x.gas(1, 999, 1), false);
    }

    /** Promise 31: "NONE if there is none such, or another what". */
    private static void emptyDock() {
        WeekBoats x = new WeekBoats();
        x.boat(4, 0, 0, 0);
        for (int round = 0; round < 2; round++) {
            for (int what = 0; what < 3; what++) {
                due("empty: " + what, x.dock(what), 0);
            }
            for (int what : new int[] {10, 11, 16, 17, 3, 9, -1, LEAST, MOST}) {
                due("empty: " + what, x.dock(what), NONE);
            }
            x.gas(0, 0, 60);
            due("late", x.dock(0), 1);
            due("sum", x.dock(1), 60);
            due("the first", x.dock(10), 0);
            due("no second", x.dock(11), NONE);
            x.gas(0, 0, 0);
        }
    }

    /** Terms 4: "one after another, from day 0 on; one is LATE, if it is done behind its DATE". */
    private static void lateBehindItsDate() {
        WeekBoats x = new WeekBoats();
        for (int b = 0; b < 7; b++) {
            x.boat(4, 0, 0, 0);
        }
        int[] days = {1, 2, 3, 4, 5, 6, 7};
        int sum = 0;
        int done = 0;
        for (int b = 0; b < 7; b++) {
            done += days[b];
            sum += done;
            x.gas(b, done, days[b]);
        }
        due("none is late at its date", x.dock(0), 0);
        due("the sum", x.dock(1), sum);
        x.gas(6, done - 1, 7);
        due("one is late", x.dock(0), 1);
        x.gas(6, done, 7);
        for (int b = 0; b < 7; b++) {
            x.gas(b, days[b] - 1, days[b]);
        }
        due("all are late", x.dock(0), 7);
        due("the least sum", x.dock(1), sum);
    }

    /** Terms 4: "fewest LATE, then with the least sum .., then the first (by numbers)". */
    private static void bestInTheDock() {
        WeekBoats x = new WeekBoats();
        for (int b = 0; b < 4; b++) {
            x.boat(4, 0, 0, 0);
        }
        x.gas(0, 999, 30);
        x.gas(1, 999, 20);
        x.gas(2, 999, 10);
        int[] least = {2, 1, 0};
        for (int i = 0; i < 3; i++) {
            due("the least sum, " + i, x.dock(10 + i), least[i]);
        }
        due("sum", x.dock(1), 10 + 30 + 60);
        x.gas(0, 30, 30);
        due("none late", x.dock(0), 0);
        due("the one with a date first", x.dock(10), 0);
        due("sum", x.dock(1), 30 + 40 + 60);
        x.gas(0, 29, 30);
        due("one late anyway", x.dock(0), 1);
        due("so by the least sum", x.dock(12), 0);
        x.gas(0, 5, 10);
        x.gas(1, 5, 10);
        x.gas(2, 5, 10);
        for (int i = 0; i < 3; i++) {
            due("by numbers, " + i, x.dock(10 + i), i);
        }
        due("all late", x.dock(0), 3);
        x.gas(2, 10, 10);
        due("one not", x.dock(0), 2);
        due("it is first", x.dock(10), 2);
        due("then by numbers", x.dock(11), 0);
        x.gas(2, 10, 0);
        due("two left", x.dock(0), 2);
        due("of them the sum", x.dock(1), 30);
        x.gas(1, 10, 0);
        due("one left", x.dock(1), 10);
        x.gas(0, 10, 10);
        due("in time", x.dock(0), 0);
    }

    /** Terms 5: "JOBS .. of 1 .. 300 minutes"; promise 32: "NONE if one can't be". */
    private static void jobNumbers() {
        WeekBoats x = new WeekBoats();
        for (int minutes : new int[] {-1, 301, LEAST, MOST}) {
            due("job " + minutes, x.job(minutes), NONE);
            due("none", x.look(3), 0);
        }
        due("1 minute", x.job(1), 1);
        due("601", x.turned(1, 0), 601);
        due("300 minutes", x.job(300), 2);
        due("901", x.turned(1, 0), 901);
    }

    /** Terms 5: "(8 at most)"; promise 32: "(minutes 0: there are none any more) .. or there are eight". */
    private static void eightJobs() {
        WeekBoats x = new WeekBoats();
        due("none of none", x.job(0), 0);
        for (int n = 1; n <= 8; n++) {
            due("job " + n, x.job(300), n);
        }
        due("a ninth", x.job(1), NONE);
        due("eight", x.look(3), 8);
        due("without it", x.turned(1, 0), 600 + 2400);
        due("at best", x.turned(1, 1), 600 + 2400);
        due("seven over", x.turned(1, 2), 7);
        due("by three hands", x.turned(3, 1), 600 + 900);
        due("the hand of the last", x.turned(1, 17), 0);
        due("no ninth", x.turned(1, 18), NONE);
        due("all gone", x.job(0), 0);
        due("none", x.look(3), 0);
        due("the end is the begin", x.turned(1, 0), 600);
        due("the end is the begin", x.turned(1, 1), 600);
        due("the first", x.job(7), 1);
        due("the others are gone", x.turned(2, 1), 607);
    }

    /** Terms 5: "HANDS 1 .. 3"; "by the hand who is free first"; "of several the first (hand of JOB 0, ..)". */
    private static void hands() {
        WeekBoats x = new WeekBoats();
        x.job(60);
        x.job(60);
        x.job(60);
        int[] end = {780, 720, 660};
        for (int hands = 1; hands <= 3; hands++) {
            due("as worked by " + hands, x.turned(hands, 0), end[hands - 1]);
            due("at best by " + hands, x.turned(hands, 1), end[hands - 1]);
        }
        for (int hands : new int[] {0, 4, -1, LEAST, MOST}) {
            for (int what : new int[] {0, 1, 2, 10}) {
                due("hands " + hands, x.turned(hands, what), NONE);
            }
        }
        int[][] best = {{0, 0, 0}, {0, 0, 1}, {0, 1, 2}};
        for (int hands = 1; hands <= 3; hands++) {
            for (int j = 0; j < 3; j++) {
                due("hand of " + j + " of " + hands, x.turned(hands, 10 + j), best[hands - 1][j]);
            }
            due("no fourth", x.turned(hands, 13), NONE);
            for (int what : new int[] {-1, 3, 9, LEAST, MOST}) {
                due("what " + what, x.turned(hands, what), NONE);
            }
        }
        x.job(59);
        x.job(61);
        // by two: 60 and 60 and 60, 59, 61: 150 at least, 180 by any three, 60 + 60 + 59 and 60 + 61 are 179 and 121
        due("the least end", x.turned(2, 1), 600 + 179);
        int[] first = {0, 0, 1, 0, 1};
        for (int j = 0; j < 5; j++) {
            due("the first way, " + j, x.turned(2, 10 + j), first[j]);
        }
    }

    /** Terms 5: "OVER: JOBS as worked that end above minute 900". */
    private static void overAt900() {
        WeekBoats x = new WeekBoats();
        x.job(300);
        due("at 900", x.turned(1, 2), 0);
        x.job(1);
        due("at 901", x.turned(1, 2), 1);
        due("by the other hand at 601", x.turned(2, 2), 0);
        x.job(299);
        due("at 900 by the other", x.turned(2, 2), 0);
        due("two by one", x.turned(1, 2), 2);
        x.job(1);
        due("then at 901", x.turned(2, 2), 1);
        due("a third", x.turned(3, 2), 0);
    }

    /** TURNING ROUND without JOBS begins and ends at minute 600. */
    private static void noJobs() {
        WeekBoats x = new WeekBoats();
        for (int hands = 1; hands <= 3; hands++) {
            due("as worked", x.turned(hands, 0), 600);
            due("at best", x.turned(hands, 1), 600);
            due("none over", x.turned(hands, 2), 0);
            due("no job", x.turned(hands, 10), NONE);
        }
    }

    /** Promise 34: "true; false if one can't be"; Terms 5: "WEIGHTS 0 .. 99 of POINTS (0 at first)". */
    private static void weights() {
        WeekBoats x = new WeekBoats();
        int[][] bad = {{-1, 5}, {16, 5}, {3, -1}, {3, 100}, {LEAST, 5}, {MOST, 5}, {3, LEAST}, {3, MOST}};
        for (int told = 0; told < 2; told++) {
            for (int[] b : bad) {
                due("weight " + b[0] + " " + b[1], x.weight(b[0], b[1]), false);
                due("the sum of 0", x.van(100), told * 4 * 15);
                due("the sum of 15", x.van(115), told * 4 * 60);
            }
            due("told", x.weight(3, 4), true);
        }
        due("99", x.weight(3, 99), true);
        due("99 times 15", x.van(100), 99 * 15);
        due("0", x.weight(3, 0), true);
        due("none", x.van(100), 0);
        due("point 15", x.weight(15, 1), true);
        due("to point 15", x.van(100), 75);
        due("point 0", x.weight(0, 2), true);
        due("to point 0", x.van(115), 150);
    }

    /** Promise 35: "100 + p the sum of POINT p, 200 + p WORST of it"; "NONE for another what". */
    private static void vanPoints() {
        WeekBoats x = new WeekBoats();
        x.weight(0, 1);
        x.weight(15, 1);
        for (int p = 0; p < 16; p++) {
            due("sum of " + p, x.van(100 + p), 75);
            due("worst of " + p, x.van(200 + p), 5 * Math.max(p, 15 - p));
        }
        due("of several the least", x.van(0), 0);
        due("its sum", x.van(1), 75);
        due("its worst", x.van(2), 75);
        for (int what : new int[] {-1, 3, 99, 116, 199, 216, LEAST, MOST, LEAST + 100, LEAST + 200}) {
            due("what " + what, x.van(what), NONE);
        }
        x.weight(15, 2);
        due("15 is best", x.van(0), 15);
        x.weight(15, 1);
        x.weight(9, 1);
        due("9 is best", x.van(0), 9);
        for (int i = 0; i < 15; i++) {
            x.stretch(i, 0, 0, 99);
        }
        x.weight(0, 99);
        x.weight(15, 99);
        x.weight(9, 0);
        due("the greatest sum of two", x.van(107), 99 * 99 * 15);
        for (int p = 0; p < 16; p++) {
            x.weight(p, 99);
        }
        due("the greatest sum of all", x.van(100), 99 * 99 * 120);
    }

    /** Promise 35: "(0 without WEIGHTS)". */
    private static void withoutWeights() {
        WeekBoats x = new WeekBoats();
        for (int round = 0; round < 2; round++) {
            due("the least point", x.van(0), 0);
            due("no sum", x.van(1), 0);
            due("no worst", x.van(2), 0);
            for (int p = 0; p < 16; p++) {
                due("no sum of " + p, x.van(100 + p), 0);
                due("no worst of " + p, x.van(200 + p), 0);
            }
            due("the first couple", x.vans(0), 0);
            due("no sum", x.vans(1), 0);
            x.weight(13, 99);
            x.weight(7, 99);
            due("two points", x.vans(0), 16 * 7 + 13);
            x.weight(7, 0);
            due("the least best couple", x.vans(0), 13);
            x.weight(13, 0);
        }
    }

    /** Terms 5: "WORST of a POINT: the most minutes to a POINT with a WEIGHT". */
    private static void worst() {
        WeekBoats x = new WeekBoats();
        x.weight(0, 1);
        due("to 0 from 15", x.van(215), 75);
        due("to 0 from 0", x.van(200), 0);
        x.weight(15, 1);
        due("to 15 from 0", x.van(200), 75);
        x.weight(0, 0);
        due("to 0 no more", x.van(215), 0);
        due("to 15 from 1", x.van(201), 70);
        x.weight(14, 99);
        due("a greater weight is not more", x.van(201), 70);
        x.stretch(14, 1, 0, 1);
        due("by the roads as they are", x.van(201), 66);
    }

    /** Terms 5: "couples of POINTS a, b (a not above b) .. of several the first"; promise 36. */
    private static void twoVans() {
        WeekBoats x = new WeekBoats();
        x.weight(15, 1);
        due("0 and 15", x.vans(0), 15);
        x.weight(14, 1);
        due("14 and 15", x.vans(0), 16 * 14 + 15);
        due("no minutes", x.vans(1), 0);
        x.weight(0, 1);
        due("0 and 14", x.vans(0), 14);
        due("5 minutes", x.vans(1), 5);
        x.weight(0, 0);
        x.weight(14, 0);
        x.weight(15, 0);
        x.weight(0, 1);
        due("0 and 0", x.vans(0), 0);
        x.weight(1, 1);
        x.weight(2, 1);
        x.weight(3, 1);
        due("0 and 2 of several", x.vans(0), 2);
        due("two of 5", x.vans(1), 10);
        for (int what : new int[] {-1, 2, 10, LEAST, MOST}) {
            due("what " + what, x.vans(what), NONE);
        }
    }

    /** Terms 5: "a minute (0 .. 9999, not falling), a POINT, WORK 1 .. 300"; promise 37. */
    private static void callNumbers() {
        WeekBoats x = new WeekBoats();
        int[][] bad = {{-1, 5, 5}, {10000, 5, 5}, {5, -1, 5}, {5, 16, 5}, {5, 5, -1}, {5, 5, 301}, {LEAST, 5, 5}, {MOST, 5, 5},
            {5, LEAST, 5}, {5, MOST, 5}, {5, 5, LEAST}, {5, 5, MOST}};
        for (int[] b : bad) {
            due("call " + b[0] + " " + b[1] + " " + b[2], x.call(b[0], b[1], b[2]), NONE);
            due("none", x.look(7), 0);
        }
        due("the least of all", x.call(0, 0, 1), 1);
        due("done at 1", x.taken(0, 0, 2), 1);
        due("at the same minute", x.call(0, 15, 300), 2);
        due("done", x.taken(0, 15, 2), 300);
        due("minute 50", x.call(50, 1, 1), 3);
        due("falling by one", x.call(49, 1, 1), NONE);
        due("three", x.look(7), 3);
        due("the last minute", x.call(9999, 15, 300), 4);
        due("done", x.taken(0, 15, 2), 9999 + 300);
        due("not above it", x.call(10000, 15, 300), NONE);
        due("the last minute again", x.call(9999, 15, 300), 5);
        due("five", x.look(7), 5);
    }

    /** Terms 5: "(12 at most)"; promise 37: "(work 0: there are none any more) .. or there are twelve". */
    private static void twelveCalls() {
        WeekBoats x = new WeekBoats();
        due("none of none", x.call(0, 0, 0), 0);
        for (int n = 1; n <= 12; n++) {
            due("call " + n, x.call(300 * n, 3, 300), n);
        }
        due("a thirteenth", x.call(9999, 3, 300), NONE);
        due("twelve", x.look(7), 12);
        due("the last one", x.taken(3, 9, 21), 0);
        due("done", x.taken(3, 9, 2), 3900);
        due("nobody waits", x.taken(3, 9, 1), 0);
        due("no thirteenth", x.taken(3, 9, 22), NONE);
        due("all gone", x.call(0, 0, 0), 0);
        due("none", x.look(7), 0);
        due("from minute 0 on again", x.call(0, 3, 1), 1);
        due("the others are gone", x.taken(3, 9, 2), 1);
    }

    /** Terms 5: "taken by the van that can be there first (.. whichever is later ..); of both the first". */
    private static void firstOfBoth() {
        WeekBoats x = new WeekBoats();
        x.call(100, 8, 30);
        due("both in 10 minutes: the first", x.taken(6, 10, 10), 0);
        due("the second is nearer by one point", x.taken(6, 9, 10), 1);
        due("from the call's minute", x.taken(6, 10, 0), 10);
        due("done", x.taken(6, 10, 2), 140);
        x.call(115, 8, 5);
        // van 0 is there and free at 140, van 1 comes at 125
        due("van 1", x.taken(6, 10, 11), 1);
        due("waits", x.taken(6, 10, 0), 10 + 10);
        x.call(130, 8, 5);
        due("van 1, free at 130, is there", x.taken(6, 10, 12), 1);
        x.call(140, 8, 5);
        due("both are there: the first", x.taken(6, 10, 13), 0);
        due("no wait", x.taken(6, 10, 1), 10);
        x.call(140, 8, 5);
        due("van 1 is free at 135", x.taken(6, 10, 14), 1);
        x.call(141, 8, 5);
        due("both free at 145: the first", x.taken(6, 10, 15), 0);
        due("waits 4", x.taken(6, 10, 0), 10 + 10 + 4);
        due("points 0 and 15", x.taken(0, 15, 10), 1);
        for (int p : new int[] {-1, 16, LEAST, MOST}) {
            due("a " + p, x.taken(p, 0, 0), NONE);
            due("b " + p, x.taken(0, p, 0), NONE);
        }
        for (int what : new int[] {-1, 3, 9, 16, LEAST, MOST}) {
            due("what " + what, x.taken(0, 0, what), NONE);
        }
    }

    /** Promise 38: "(0 without CALLS)". */
    private static void withoutCalls() {
        WeekBoats x = new WeekBoats();
        for (int round = 0; round < 2; round++) {
            for (int what = 0; what < 3; what++) {
                due("no calls: " + what, x.taken(0, 15, what), 0);
            }
            due("no first", x.taken(0, 15, 10), NONE);
            x.call(9, 7, 300);
            x.call(9, 8, 300);
            x.call(9, 7, 300);
            due("waits", x.taken(0, 15, 1), 335);
            due("the last done", x.taken(0, 15, 2), 9 + 35 + 600);
            x.call(0, 0, 0);
            due("one call of no wait", x.call(0, 0, 1), 1);
            due("no wait", x.taken(0, 15, 1), 0);
            due("done at 1", x.taken(0, 15, 2), 1);
            x.call(0, 0, 0);
        }
    }

    /** Promise 39: "NONE if one can't be (use, gain 0 .. 99, rain 0 .. 100)"; SHUT 0 .. 999, n 0 .. 60. */
    private static void weather() {
        WeekBoats x = new WeekBoats();
        int[][] bad = {{-1, 5, 5, 5, 5}, {100, 5, 5, 5, 5}, {5, -1, 5, 5, 5}, {5, 101, 5, 5, 5}, {5, 5, -1, 5, 5}, {5, 5, 100, 5, 5},
            {5, 5, 5, -1, 5}, {5, 5, 5, 1000, 5}, {5, 5, 5, 5, -1}, {5, 5, 5, 5, 61}, {LEAST, 5, 5, 5, 5}, {5, MOST, 5, 5, 5},
            {5, 5, LEAST, 5, 5}, {5, 5, 5, MOST, 5}, {5, 5, 5, 5, MOST}, {5, 5, 5, 5, LEAST}};
        for (int[] b : bad) {
            String name = b[0] + " " + b[1] + " " + b[2] + " " + b[3] + " " + b[4];
            due("left " + name, x.left(b[0], b[1], b[2], b[3], b[4]), NONE);
            if (b[4] == 5) {
                due("shuts " + name, x.shuts(b[0], b[1], b[2], b[3]), NONE);
            }
        }
        due("the least of all", x.left(0, 0, 0, 0, 0), 1000000);
        due("the most of all", x.left(99, 100, 99, 999, 60), 0);
        due("n 60", x.left(0, 0, 0, 500, 60), 1000000);
        due("shut 999", x.shuts(0, 0, 0, 999), 0);
        x.water(999);
        due("the most of all, from 999", x.left(99, 100, 99, 999, 60), 1000000);
        due("it never shuts", x.shuts(99, 100, 99, 999), NONE);
        x.water(0);
        due("shut 0", x.left(99, 0, 0, 0, 60), 1000000);
        due("it never shuts", x.shuts(99, 0, 0, 0), NONE);
    }

    /** Terms 5: "each day USE lockfuls go (0 are left at least)". */
    private static void lockfulsThatGo() {
        WeekBoats x = new WeekBoats();
        x.water(100);
        due("just shut", x.left(50, 0, 0, 50, 1), 1000000);
        due("one below", x.left(50, 0, 0, 51, 1), 0);
        due("twice: just 0", x.left(50, 0, 0, 1, 2), 0);
        due("twice: 0 will do", x.left(50, 0, 0, 0, 2), 1000000);
        x.water(10);
        due("0 at least, then 7 come", x.left(99, 100, 7, 7, 1), 1000000);
        due("no more than 7", x.left(99, 100, 7, 8, 1), 0);
        due("each day anew", x.left(99, 100, 7, 7, 60), 1000000);
        due("no use", x.left(0, 0, 0, 10, 60), 1000000);
    }

    /** Terms 5: "GAIN lockfuls come (at most 999 in all)". */
    private static void lockfulsThatCome() {
        WeekBoats x = new WeekBoats();
        x.water(998);
        due("998 less 99 are 899", x.left(99, 0, 0, 899, 1), 1000000);
        due("they are not 900", x.left(99, 0, 0, 900, 1), 0);
        due("rain makes good", x.left(99, 100, 99, 998, 60), 1000000);
        // 999 and no more: behind two days without rain 997 at most
        due("half rain", x.left(1, 50, 99, 998, 1), 500000);
        due("999 are left one day more", x.left(1, 50, 99, 998, 2), 500000);
        due("not two", x.left(1, 50, 99, 998, 3), 375000);
        x.water(999);
        due("999 and rain", x.left(0, 100, 99, 999, 60), 1000000);
        due("a day without", x.left(1, 50, 99, 998, 2), 750000);
    }

    /** Terms 5: "of those at a level, RAIN hundredths (downwards) have rain, the others none". */
    private static void downwards() {
        WeekBoats x = new WeekBoats();
        x.water(500);
        int left = 1000000;
        for (int n = 1; n <= 12; n++) {
            left = left * 33 / 100;
            due("a third each day, " + n, x.left(1, 33, 1, 500, n), left);
        }
        due("nobody at the end", x.left(1, 33, 1, 500, 20), 0);
        due("rain 0", x.left(1, 0, 1, 500, 1), 0);
        due("rain 1", x.left(1, 1, 1, 500, 1), 10000);
        due("rain 99", x.left(1, 99, 1, 500, 1), 990000);
        due("rain 100", x.left(1, 100, 1, 500, 60), 1000000);
        // levels join again: 501, 499 with 67, 33 of 100; then 500 from both
        due("levels join", x.left(1, 67, 2, 500, 2), 670000);
        due("on the third day", x.left(1, 67, 2, 500, 3), 448900 + 221100 * 67 / 100);
    }

    /** Terms 5: "a level below SHUT at the end of a day is out for good. All are out, if WATER is below SHUT now". */
    private static void outForGood() {
        WeekBoats x = new WeekBoats();
        x.water(300);
        due("at SHUT now", x.left(0, 0, 0, 300, 0), 1000000);
        due("below SHUT now", x.left(0, 100, 99, 301, 0), 0);
        due("below it, rain or not", x.left(0, 100, 99, 301, 60), 0);
        due("out for good", x.left(10, 50, 99, 300, 2), 500000);
        due("the end of a day counts, not its middle", x.left(10, 100, 10, 300, 60), 1000000);
        due("one less comes", x.left(10, 100, 9, 300, 1), 0);
    }

    /** Terms 5: "SHUTS: the first day behind which fewer than half are left"; promise 40. */
    private static void fewerThanHalf() {
        WeekBoats x = new WeekBoats();
        x.water(300);
        due("now", x.shuts(0, 0, 0, 301), 0);
        due("not now", x.shuts(0, 0, 0, 300), NONE);
        due("day 1", x.shuts(1, 0, 0, 300), 1);
        due("just half are left behind day 1", x.shuts(1, 50, 1, 300), 2);
        due("one of a hundred less", x.shuts(1, 49, 1, 300), 1);
        due("day 59", x.shuts(1, 0, 0, 242), 59);
        due("day 60", x.shuts(1, 0, 0, 241), 60);
        due("day 61 is too far", x.shuts(1, 0, 0, 240), NONE);
        due("WATER stays", x.look(6), 300);
        due("asked again", x.shuts(1, 0, 0, 241), 60);
    }
}
