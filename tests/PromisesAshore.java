/** Promises 25 to 40: the lock's queue, bookings, the dock, jobs, vans and the water left. */
public final class PromisesAshore {
    private static int wrong = 0;

    private static void due(String what, long got, long want) {
        if (got != want) {
            wrong++;
            System.out.println(what + " answered " + got + ", due is " + want);
        }
    }

    private static void due(String what, boolean got, boolean want) {
        due(what, got ? 1 : 0, want ? 1 : 0);
    }

    public static void main(String[] args) {
        promise25();
        promise26();
        promise26Best();
        promise27();
        promise28();
        promise28Best();
        promise28LaterIsBetter();
        promise29();
        promise30();
        promise31();
        promise32();
        promise33();
        promise34and35();
        promise36();
        promise37();
        promise38();
        promise39();
        promise40();
        System.out.println(wrong == 0 ? "all answers are as due" : wrong + " answers are not as due");
        if (wrong != 0) {
            System.exit(1);
        }
    }

    private static void promise25() {
        WeekBoats x = new WeekBoats();
        due("minute", x.queue(-1, 1), -1);
        due("minute", x.queue(10000, 1), -1);
        due("way", x.queue(0, 2), -1);
        due("way", x.queue(0, -2), -1);
        due("first", x.queue(5, 1), 1);
        due("falling", x.queue(4, 1), -1);
        due("as late", x.queue(5, 0), 2);
        for (int n = 3; n <= 7; n++) {
            due("queue " + n, x.queue(9999, 0), n);
        }
        due("there are seven", x.queue(9999, 0), -1);
        due("empty", x.queue(-7, -1), 0);
        due("look", x.look(4), 0);
        due("falls not behind those that are gone", x.queue(0, 1), 1);
    }

    private static void promise26() {
        WeekBoats x = new WeekBoats();
        for (int what = 0; what < 4; what++) {
            due("empty " + what, x.lock(what), 0);
        }
        due("empty", x.lock(10), -1);
        int[][] boats = {{100, 1}, {100, 1}, {118, 0}, {200, 0}};
        for (int[] b : boats) {
            x.queue(b[0], b[1]);
        }
        // as they come: 100..115, 115..135, 135..150, 200..220
        due("as they come", x.lock(0), 0 + 15 + 17 + 0);
        // three locks of boats that go one way only, the fourth the same way as the third
        due("lockfuls as they come", x.lock(2), 3);
        due("none such", x.lock(14), -1);
        due("what", x.lock(4), -1);
        due("what", x.lock(9), -1);
        due("what", x.lock(-1), -1);
        due("what", x.lock(Integer.MIN_VALUE), -1);
        x.queue(0, -1);
        due("none now", x.lock(10), -1);
        due("none now", x.lock(0), 0);
        x.queue(0, 1);
        due("one", x.lock(2), 1);
        due("one", x.lock(3), 1);
        due("one", x.lock(10), 0);
    }

    private static void promise26Best() {
        WeekBoats x = new WeekBoats();
        int[][] boats = {{0, 1}, {0, 1}, {0, 0}, {0, 0}};
        for (int[] b : boats) {
            x.queue(b[0], b[1]);
        }
        // 15, 20, 15, 20 in the order told; 15 each by turns
        due("as they come", x.lock(0), 15 + 35 + 50);
        due("best", x.lock(1), 15 + 30 + 45);
        due("lockfuls as they come", x.lock(2), 3);
        due("lockfuls at best", x.lock(3), 1);
        int[] first = {0, 2, 1, 3};
        for (int i = 0; i < 4; i++) {
            due("the first of the best, " + i, x.lock(10 + i), first[i]);
        }
        x.queue(0, -1);
        x.queue(0, 1);
        x.queue(0, 0);
        x.queue(0, 0);
        x.queue(0, 0);
        due("lockfuls as they come", x.lock(2), 3);
        due("the best begins with the second", x.lock(10), 1);
        due("then the first", x.lock(11), 0);
        due("lockfuls", x.lock(3), 2);
        x.queue(0, -1);
        x.queue(0, 1);
        due("a new one", x.lock(10), 0);
        WeekBoats y = new WeekBoats();
        for (int i = 0; i < 7; i++) {
            y.queue(0, 1);
        }
        due("all one way", y.lock(1), 15 + 35 + 55 + 75 + 95 + 115);
        for (int i = 0; i < 7; i++) {
            due("the order told is the first, " + i, y.lock(10 + i), i);
        }
    }

    private static void promise27() {
        WeekBoats x = new WeekBoats();
        int[][] bad = {{-1, 0, 0, 2}, {16, 0, 0, 2}, {0, -1, 0, 2}, {0, 16, 0, 2}, {0, 0, -1, 2}, {0, 0, 10, 2},
            {0, 0, 0, 1}, {0, 0, 0, 13}};
        for (int[] b : bad) {
            due("booking " + b[0] + " " + b[1] + " " + b[2] + " " + b[3], x.booking(b[0], b[1], b[2], b[3]), -1);
        }
        for (int n = 0; n < 8; n++) {
            due("booking " + n, n % 2 == 0 ? x.booking(0, 15, 9, 12) : x.booking(15, 0, 0, 2), n);
        }
        due("there are eight", x.booking(0, 0, 0, 2), -1);
        due("eight", x.look(2), 8);
    }

    private static void promise28() {
        WeekBoats x = new WeekBoats();
        due("no boats", x.given(1, 0), -1);
        x.boat(4, 0, 3, 0);
        x.boat(6, 0, 5, 0);
        due("no bookings", x.given(2, 0), 0);
        due("all at home", x.given(2, 1), 2);
        due("none such", x.given(2, 10), -1);
        x.booking(5, 3, 2, 2);
        x.booking(3, 5, 1, 4);
        due("not so many", x.given(3, 0), -1);
        due("k", x.given(0, 0), -1);
        due("k", x.given(5, 0), -1);
        due("what", x.given(2, 2), -1);
        due("what", x.given(2, 9), -1);
        due("what", x.given(2, 12), -1);
        due("what", x.given(2, -1), -1);
        due("both", x.given(1, 0), 2);
        due("boat 0 goes and comes home", x.given(1, 10), 0);
        due("boat 0 goes and comes home", x.given(1, 11), 0);
        due("home", x.given(2, 1), 2);
        due("boat 0 brings itself home rather than boat 1", x.given(2, 10), 0);
        x.booking(3, 3, 1, 5);
        due("too few berths", x.given(1, 12), -1);
        x.booking(3, 5, 1, 2);
        due("only one in a week", x.given(2, 0), 2);
        due("the first of the two", x.given(2, 11), 0);
        due("not the second", x.given(2, 13), -1);
    }

    private static void promise28Best() {
        WeekBoats x = new WeekBoats();
        x.boat(4, 0, 0, 0);
        x.boat(12, 0, 0, 0);
        x.boat(12, 0, 1, 0);
        x.booking(0, 1, 0, 2);
        x.booking(0, 0, 0, 6);
        x.booking(1, 2, 3, 8);
        // boat 0 has the first, as boat 1 is needed for the second; boat 2 the third
        due("three", x.given(3, 0), 3);
        due("first", x.given(3, 10), 0);
        due("second", x.given(3, 11), 1);
        due("third", x.given(3, 12), 2);
        due("home is one", x.given(3, 1), 1);
        due("two boats: two", x.given(2, 0), 2);
        // boat 1 to 1 and on to 2, or boat 0 to 1 and boat 1 back home: most at home
        due("home", x.given(2, 1), 1);
        due("boat 0 away", x.given(2, 10), 0);
        due("boat 1 stays", x.given(2, 11), 1);
        due("none for the third", x.given(2, 12), -1);
        WeekBoats y = new WeekBoats();
        y.boat(4, 0, 0, 0);
        y.boat(4, 0, 1, 0);
        y.booking(0, 1, 0, 2);
        y.booking(1, 0, 1, 2);
        // both ways serve two; that with boat 0 coming home itself leaves both at home
        due("most at home", y.given(2, 1), 2);
        due("the same boat", y.given(2, 11), 0);
        y.booking(1, 1, 1, 2);
        due("three", y.given(2, 0), 3);
        due("the first way", y.given(2, 11), 0);
        due("the first way", y.given(2, 12), 1);
        WeekBoats z = new WeekBoats();
        z.boat(4, 0, 0, 0);
        z.booking(0, 1, 0, 2);
        due("served rather than at home", z.given(1, 0), 1);
        due("away", z.given(1, 1), 0);
        z.booking(0, 0, 0, 2);
        due("at home, if as many are served", z.given(1, 1), 1);
        due("the first not", z.given(1, 10), -1);
        due("the second", z.given(1, 11), 0);
    }

    private static void promise29() {
        WeekBoats x = new WeekBoats();
        due("no boats", x.more(1, 4, 0), -1);
        x.boat(4, 0, 0, 0);
        x.boat(4, 0, 0, 0);
        x.boat(4, 0, 0, 0);
        x.boat(4, 0, 0, 0);
        due("no bookings", x.more(1, 4, 0), 0);
        x.booking(0, 0, 0, 2);
        x.booking(0, 0, 0, 2);
        x.booking(7, 0, 0, 9);
        due("the second", x.more(1, 4, 0), 1);
        due("none more", x.more(2, 4, 0), 0);
        due("at its home", x.more(2, 9, 7), 1);
        due("too few berths", x.more(2, 8, 7), 0);
        due("three and one", x.more(3, 9, 7), 1);
        due("those asked later are as before", x.given(4, 0), 2);
        due("k", x.more(0, 4, 0), -1);
        due("k", x.more(4, 4, 0), -1);
        due("berths", x.more(1, 1, 0), -1);
        due("berths", x.more(1, 13, 0), -1);
        due("home", x.more(1, 4, -1), -1);
        due("home", x.more(1, 4, 16), -1);
        x.booking(0, 7, 1, 2);
        x.booking(7, 0, 2, 2);
        due("one more later", x.more(2, 12, 7), 1);
        due("four", x.given(4, 0), 4);
        due("one of more berths", x.more(3, 9, 7), 1);
        due("one of fewer", x.more(3, 4, 7), 0);
        due("one of more again", x.more(3, 9, 7), 1);
        due("one elsewhere", x.more(3, 9, 8), 0);
        due("four still", x.given(4, 0), 4);
        due("one is enough for one of the two", x.more(1, 4, 9), 0);
        x.booking(0, 0, 5, 12);
        due("the big one at home 0", x.more(3, 12, 0), 1);
        due("none of the four is it", x.given(4, 0), 4);
        x.booking(9, 9, 6, 4);
        due("one of home 9", x.more(3, 4, 9), 1);
        due("none of the four is there", x.given(4, 0), 4);
    }

    private static void promise28LaterIsBetter() {
        WeekBoats x = new WeekBoats();
        x.boat(12, 0, 0, 0);
        x.boat(2, 0, 0, 0);
        x.booking(0, 0, 0, 2);
        x.booking(0, 0, 0, 12);
        due("the small one for the first", x.given(2, 0), 2);
        due("boat 1", x.given(2, 10), 1);
        due("boat 0", x.given(2, 11), 0);
        WeekBoats y = new WeekBoats();
        y.boat(12, 0, 0, 0);
        y.boat(2, 0, 0, 0);
        int[][] bookings = {{0, 0, 2}, {0, 0, 12}, {1, 1, 2}, {1, 1, 2}, {1, 2, 2}, {1, 3, 2}};
        for (int[] b : bookings) {
            y.booking(b[0], 1, b[1], b[2]);
        }
        // boat 0 for the first would leave out the second, and one of week 1
        due("all six", y.given(2, 0), 6);
        int[] boats = {1, 0, 0, 1, 0, 0};
        for (int b = 0; b < 6; b++) {
            due("boat of " + b, y.given(2, 10 + b), boats[b]);
        }
    }

    private static void promise30() {
        WeekBoats x = new WeekBoats();
        due("no boat", x.gas(0, 0, 1), false);
        for (int n = 0; n < 9; n++) {
            x.boat(4, 0, 0, 0);
        }
        int[][] bad = {{-1, 0, 1}, {9, 0, 1}, {0, -1, 1}, {0, 1000, 1}, {0, 0, -1}, {0, 0, 61}, {-1, 0, 0}, {9, 0, 0},
            {0, -1, 0}, {0, 1000, 0}};
        for (int[] b : bad) {
            due("gas " + b[0] + " " + b[1] + " " + b[2], x.gas(b[0], b[1], b[2]), false);
        }
        due("none told", x.dock(2), 0);
        for (int n = 0; n < 7; n++) {
            due("gas of " + n, x.gas(n, n == 0 ? 0 : 999, n == 0 ? 1 : 60), true);
        }
        due("seven others", x.gas(7, 0, 1), false);
        due("six others", x.gas(6, 0, 1), true);
        due("seven", x.dock(2), 7);
        due("not told at all, beside seven others", x.gas(8, 5, 0), false);
        due("no date", x.gas(3, -1, 0), false);
        due("nor this", x.gas(3, 1000, 0), false);
        due("still seven", x.dock(2), 7);
        due("not told any more", x.gas(3, 999, 0), true);
        due("nor told at all", x.gas(8, 0, 0), true);
        due("six", x.dock(2), 6);
        due("now it can", x.gas(7, 0, 1), true);
        due("seven again", x.dock(2), 7);
    }

    private static void promise31() {
        WeekBoats x = new WeekBoats();
        due("none late", x.dock(0), 0);
        due("no sum", x.dock(1), 0);
        due("none", x.dock(10), -1);
        for (int n = 0; n < 5; n++) {
            x.boat(4, 0, 0, 0);
        }
        x.gas(4, 10, 10);
        due("in time at its date", x.dock(0), 0);
        due("the first boat is 4", x.dock(10), 4);
        x.gas(1, 9, 5);
        // 1 done on day 5, 4 on day 15, or 4 on day 10, 1 on day 15: one late
        due("one late", x.dock(0), 1);
        due("the least sum", x.dock(1), 5 + 15);
        due("1 first", x.dock(10), 1);
        due("then 4", x.dock(11), 4);
        x.gas(1, 15, 5);
        due("none late, though the sum is more", x.dock(0), 0);
        due("sum", x.dock(1), 10 + 15);
        due("4 first", x.dock(10), 4);
        x.gas(0, 99, 5);
        x.gas(2, 99, 5);
        due("4, 1, 0, 2", x.dock(11), 1);
        due("4, 1, 0, 2", x.dock(12), 0);
        due("4, 1, 0, 2", x.dock(13), 2);
        x.gas(1, 99, 5);
        x.gas(4, 99, 5);
        for (int i = 0; i < 4; i++) {
            due("by numbers", x.dock(10 + i), i == 3 ? 4 : i);
        }
        due("none such", x.dock(14), -1);
        due("what", x.dock(3), -1);
        due("what", x.dock(9), -1);
        due("what", x.dock(-1), -1);
    }

    private static void promise32() {
        WeekBoats x = new WeekBoats();
        due("below", x.job(-1), -1);
        due("above", x.job(301), -1);
        for (int n = 1; n <= 8; n++) {
            due("job " + n, x.job(n == 1 ? 1 : 300), n);
        }
        due("there are eight", x.job(1), -1);
        due("none any more", x.job(0), 0);
        due("look", x.look(3), 0);
        due("one", x.job(300), 1);
    }

    private static void promise33() {
        WeekBoats x = new WeekBoats();
        due("no jobs", x.turned(3, 0), 600);
        due("no jobs", x.turned(3, 1), 600);
        due("no jobs", x.turned(3, 2), 0);
        due("no jobs", x.turned(3, 10), -1);
        int[] jobs = {100, 200, 150, 300, 50};
        for (int j : jobs) {
            x.job(j);
        }
        due("one hand", x.turned(1, 0), 600 + 800);
        due("over with one hand", x.turned(1, 2), 3);
        // 0: 100, then 150 by hand 0 (250), 300 by hand 1 (500), 50 by hand 0 (300: not above 900)
        due("as worked", x.turned(2, 0), 600 + 500);
        due("over", x.turned(2, 2), 1);
        due("best", x.turned(2, 1), 600 + 400);
        int[] best = {0, 1, 1, 0, 1};
        for (int j = 0; j < 5; j++) {
            due("hand of " + j, x.turned(2, 10 + j), best[j]);
        }
        due("three hands as worked", x.turned(3, 0), 600 + 400);
        due("three hands best", x.turned(3, 1), 600 + 300);
        due("none such", x.turned(2, 15), -1);
        due("hands", x.turned(0, 0), -1);
        due("hands", x.turned(4, 0), -1);
        due("what", x.turned(2, 3), -1);
        due("what", x.turned(2, 9), -1);
        due("what", x.turned(2, -1), -1);
        x.job(0);
        x.job(300);
        x.job(300);
        x.job(1);
        due("at 900 not over", x.turned(2, 2), 1);
        due("the first of several", x.turned(2, 12), 0);
        due("the least hand", x.turned(2, 0), 901);
    }

    private static void promise34and35() {
        WeekBoats x = new WeekBoats();
        due("without weights", x.van(0), 0);
        due("without weights", x.van(1), 0);
        due("without weights", x.van(2), 0);
        due("without weights", x.van(215), 0);
        due("point", x.weight(-1, 0), false);
        due("point", x.weight(16, 0), false);
        due("below", x.weight(0, -1), false);
        due("above", x.weight(0, 100), false);
        due("weight", x.weight(4, 99), true);
        due("weight", x.weight(4, 2), true);
        x.stretch(4, 1, 0, 7);
        x.weight(8, 2);
        // 4 to 5 is 7 minutes, each other one 5: 22 minutes between
        due("the least of several", x.van(0), 4);
        due("sum", x.van(1), 44);
        due("worst", x.van(2), 22);
        x.weight(10, 1);
        due("the middle one", x.van(0), 8);
        due("sum", x.van(1), 44 + 10);
        due("worst", x.van(2), 22);
        due("sum of 0", x.van(100), 2 * 20 + 2 * 42 + 52);
        due("worst of 0", x.van(200), 52);
        due("sum of 15", x.van(115), 2 * 57 + 2 * 35 + 25);
        due("worst of 15", x.van(215), 57);
        due("worst of 8", x.van(208), 22);
        int[] bad = {-1, 3, 99, 116, 199, 216, Integer.MIN_VALUE, Integer.MAX_VALUE};
        for (int what : bad) {
            due("van " + what, x.van(what), -1);
        }
        x.weight(10, 0);
        due("no weight any more", x.van(200), 42);
    }

    private static void promise36() {
        WeekBoats x = new WeekBoats();
        due("without weights", x.vans(0), 0);
        due("without weights", x.vans(1), 0);
        x.weight(0, 5);
        x.weight(1, 5);
        due("0 and 1", x.vans(0), 1);
        x.weight(0, 0);
        due("point 1", x.van(0), 1);
        x.weight(1, 0);
        x.weight(3, 5);
        due("the first couple", x.vans(0), 3);
        due("0 and 3", x.vans(1), 0);
        x.weight(9, 5);
        due("3 and 9", x.vans(0), 16 * 3 + 9);
        x.weight(15, 1);
        due("3 and 9 still", x.vans(0), 16 * 3 + 9);
        due("sum", x.vans(1), 30);
        x.weight(4, 99);
        due("4 and 9", x.vans(0), 16 * 4 + 9);
        due("sum", x.vans(1), 25 + 30);
        due("what", x.vans(2), -1);
        due("what", x.vans(-1), -1);
    }

    private static void promise37() {
        WeekBoats x = new WeekBoats();
        int[][] bad = {{-1, 0, 1}, {10000, 0, 1}, {0, -1, 1}, {0, 16, 1}, {0, 0, -1}, {0, 0, 301}};
        for (int[] b : bad) {
            due("call " + b[0] + " " + b[1] + " " + b[2], x.call(b[0], b[1], b[2]), -1);
        }
        due("first", x.call(7, 15, 300), 1);
        due("falling", x.call(6, 0, 1), -1);
        for (int n = 2; n <= 12; n++) {
            due("call " + n, x.call(n < 12 ? 7 : 9999, 0, 1), n);
        }
        due("there are twelve", x.call(9999, 0, 1), -1);
        due("twelve", x.look(7), 12);
        due("none any more", x.call(-5, 99, 0), 0);
        due("none", x.look(7), 0);
        due("not behind those that are gone", x.call(0, 0, 1), 1);
    }

    private static void promise38() {
        WeekBoats x = new WeekBoats();
        for (int what = 0; what < 3; what++) {
            due("no calls", x.taken(3, 4, what), 0);
        }
        due("no calls", x.taken(3, 4, 10), -1);
        x.call(100, 6, 50);
        x.call(100, 6, 10);
        x.call(120, 0, 5);
        // van 1 at 8 and van 0 at 4 are as near: the first; van 1 then; then van 1, free at 120
        due("the first of both", x.taken(4, 8, 10), 0);
        due("van 1 is free", x.taken(4, 8, 11), 1);
        due("van 1, free at 120, 30 minutes off", x.taken(4, 8, 12), 1);
        due("wait", x.taken(4, 8, 0), 10 + 10 + 30);
        due("longest", x.taken(4, 8, 1), 30);
        due("the last one done is the first call", x.taken(4, 8, 2), 160);
        due("van 0 is nearer to the last", x.taken(0, 6, 12), 0);
        // van 1 works from 100 to 150; the second call: van 0 from 0 is there at 130, van 1 at 150
        due("the second call", x.taken(0, 6, 11), 0);
        due("free again at 140, there at 170", x.taken(0, 6, 0), 0 + 30 + 50);
        due("done", x.taken(0, 6, 2), 175);
        WeekBoats y = new WeekBoats();
        y.call(0, 3, 5);
        due("free from minute 0 on", y.taken(3, 3, 0), 0);
        due("done", y.taken(3, 3, 2), 5);
        due("a", x.taken(-1, 0, 0), -1);
        due("a", x.taken(16, 0, 0), -1);
        due("b", x.taken(0, -1, 0), -1);
        due("b", x.taken(0, 16, 0), -1);
        due("what", x.taken(0, 0, 3), -1);
        due("what", x.taken(0, 0, 9), -1);
        due("what", x.taken(0, 0, 13), -1);
        due("what", x.taken(0, 0, -1), -1);
    }

    private static void promise39() {
        WeekBoats x = new WeekBoats();
        x.water(100);
        due("now", x.left(10, 50, 10, 100, 0), 1000000);
        due("now below", x.left(10, 50, 10, 101, 0), 0);
        due("half have rain", x.left(10, 50, 10, 100, 1), 500000);
        due("out for good", x.left(10, 50, 20, 95, 2), 500000);
        due("rain makes good ahead of the end of the day", x.left(10, 100, 10, 100, 60), 1000000);
        due("no rain", x.left(10, 0, 99, 91, 1), 0);
        due("not below", x.left(10, 0, 99, 90, 1), 1000000);
        due("downwards", x.left(10, 33, 10, 100, 4), 11859);
        due("0 are left at least", x.left(99, 0, 0, 0, 60), 1000000);
        x.water(8);
        due("from 0 on", x.left(9, 100, 7, 7, 60), 1000000);
        x.water(999);
        due("at most 999", x.left(0, 100, 99, 999, 60), 1000000);
        due("at most 999", x.left(99, 60, 99, 800, 3), 936000);
        due("water stays", x.look(6), 999);
        int[][] bad = {{-1, 0, 0, 0, 0}, {100, 0, 0, 0, 0}, {0, -1, 0, 0, 0}, {0, 101, 0, 0, 0}, {0, 0, -1, 0, 0},
            {0, 0, 100, 0, 0}, {0, 0, 0, -1, 0}, {0, 0, 0, 1000, 0}, {0, 0, 0, 0, -1}, {0, 0, 0, 0, 61}};
        for (int[] b : bad) {
            String all = b[0] + " " + b[1] + " " + b[2] + " " + b[3] + " " + b[4];
            due("left " + all, x.left(b[0], b[1], b[2], b[3], b[4]), -1);
            if (b[4] == 0) {
                due("shuts " + all, x.shuts(b[0], b[1], b[2], b[3]), -1);
            }
        }
    }

    private static void promise40() {
        WeekBoats x = new WeekBoats();
        x.water(60);
        due("now", x.shuts(0, 0, 0, 61), 0);
        due("never", x.shuts(0, 0, 0, 60), -1);
        due("the first day", x.shuts(1, 0, 0, 60), 1);
        due("day 60", x.shuts(1, 0, 0, 1), 60);
        due("not within 60 days", x.shuts(1, 0, 0, 0), -1);
        due("just half is not fewer", x.shuts(1, 50, 1, 60), 2);
        due("fewer than half", x.shuts(1, 49, 1, 60), 1);
        x.water(61);
        due("not within 60 days", x.shuts(1, 0, 0, 1), -1);
    }
}
