/**
 * The boundaries that promises 11 to 24 name: for each sentence the last value that is taken and
 * the first one that is not, the empty and the full.
 */
public final class BoundsWays {
    private static final int NONE = -1;
    private static final int NOTHING = -1000000;
    private static final int LEAST = Integer.MIN_VALUE;
    private static final int MOST = Integer.MAX_VALUE;
    private static int wrong = 0;

    private static void due(String what, long got, long want) {
        if (got != want) {
            wrong++;
            System.out.println(what + " answered " + got + ", due is " + want);
        }
    }

    private static void due(String what, boolean got, boolean want) {
        due(what, got ? 1 : 0, want ? 1 : 0);
    }

    public static void main(String[] args) {
        hourEightToNineteen();
        stoppageDays();
        hoursOfLocks();
        hoursOfTunnels();
        tunnelWithoutMiles();
        taughtBySix();
        lastMinute();
        atOnce();
        notLaterThanTold();
        setOfAllPoints();
        maybeHeeds();
        harmCut();
        dayOnWhichItBegins();
        turningBack();
        refundDays();
        refundWeeks();
        refundNone();
        rungByAMinute();
        twentyTrips();
        pumpPoints();
        nextPump();
        fullAhead();
        enoughTaught();
        tripNumbers();
        lateBy();
        risingLogs();
        tenLogs();
        spans();
        withoutLogs();
        betweenLogs();
        whose();
        tonight();
        tenBoatsTonight();
        System.out.println(wrong == 0 ? "all answers are as due" : wrong + " answers are not as due");
        if (wrong != 0) {
            System.exit(1);
        }
    }

    private static void rules(WeekBoats x, String text) {
        for (int i = 0; i < text.length(); i += 20) {
            int[] n = new int[5];
            for (int k = 0; k < 20; k++) {
                n[k / 4] = n[k / 4] << 8 | (i + k < text.length() ? text.charAt(i + k) : ' ');
            }
            x.feed(n[0], n[1], n[2], n[3], n[4]);
        }
        due("no fault in " + text, x.rules() == NONE, false);
    }

    /** One BOAT of 4 BERTHS and AGE 10, at HOME at a POINT, TAUGHT all. */
    private static WeekBoats boatAt(int home) {
        WeekBoats x = new WeekBoats();
        x.boat(4, 10, home, 60);
        return x;
    }

    private static int at(int day, int hour, int minute) {
        return day * 1440 + hour * 60 + minute;
    }

    /** Terms 3: "it may: HOUR 8 .. 19". */
    private static void hourEightToNineteen() {
        for (int day = 0; day < 14; day += 13) {
            WeekBoats x = boatAt(0);
            due("7:59", x.comes(0, 3, 4, at(day, 7, 59)), at(day, 8, 20));
            due("8:00", x.comes(0, 3, 4, at(day, 8, 0)), at(day, 8, 20));
            due("8:01", x.comes(0, 3, 4, at(day, 8, 1)), at(day, 8, 21));
            due("19:59", x.comes(0, 3, 4, at(day, 19, 59)), at(day, 20, 19));
            due("20:00", x.comes(0, 3, 4, at(day, 20, 0)), day == 13 ? NONE : at(day + 1, 8, 20));
            due("23:59", x.comes(0, 3, 4, at(day, 23, 59)), day == 13 ? NONE : at(day + 1, 8, 20));
            due("the second mile at 19:59", x.comes(0, 3, 5, at(day, 19, 39)), at(day, 20, 19));
            due("the second mile at 20:00", x.comes(0, 3, 5, at(day, 19, 40)), day == 13 ? NONE : at(day + 1, 8, 20));
        }
    }

    /** Terms 3: "no STOPPAGE of the STRETCH on that DAY". */
    private static void stoppageDays() {
        WeekBoats x = boatAt(0);
        x.stretch(7, 1, 1, 5);
        x.stoppage(7, 4, 6);
        due("day 3", x.comes(0, 7, 8, at(3, 19, 39)), at(3, 20, 14));
        due("its lock on day 3 no more", x.comes(0, 7, 8, at(3, 19, 40)), at(7, 8, 15));
        due("day 4", x.comes(0, 7, 8, at(4, 0, 0)), at(7, 8, 35));
        due("day 6", x.comes(0, 8, 7, at(6, 19, 59)), at(7, 8, 35));
        due("day 7", x.comes(0, 8, 7, at(7, 0, 0)), at(7, 8, 35));
        due("the stretch below", x.comes(0, 6, 7, at(5, 8, 0)), at(5, 8, 20));
        due("the stretch above", x.comes(0, 8, 9, at(5, 8, 0)), at(5, 8, 20));
        x.stoppage(7, 5, 13);
        due("two of one day, then none free", x.comes(0, 7, 8, at(4, 0, 0)), NONE);
        x.stretch(7, 0, 0, 5);
        due("without steps none stops it", x.comes(0, 7, 8, at(5, 1, 0)), at(5, 1, 0));
        x.stretch(7, 3, 0, 5);
        rules(x, "tunnel 7 up 0 24;");
        due("a tunnel's step heeds them", x.comes(0, 7, 8, at(3, 20, 0)), NONE);
        due("it ends when it will", x.comes(0, 7, 8, at(3, 19, 59)), at(3, 20, 59));
    }

    /** Terms 3: "for a LOCK: HOUR not below the first, below the second HOUR of the locks line". */
    private static void hoursOfLocks() {
        WeekBoats x = boatAt(0);
        x.stretch(0, 0, 1, 5);
        rules(x, "locks 10 12 when day = 0;locks 24 24 when day = 1;locks 0 0 when day = 2;locks 12 10 when day = 3;"
            + "locks 19 20 when day = 4;locks 8 9 when day = 5;locks 0 8;");
        due("9:59", x.comes(0, 0, 1, at(0, 9, 59)), at(0, 10, 15));
        due("10:00", x.comes(0, 0, 1, at(0, 10, 0)), at(0, 10, 15));
        due("11:59", x.comes(0, 0, 1, at(0, 11, 59)), at(0, 12, 14));
        due("12:00, then no day before day 4", x.comes(0, 0, 1, at(0, 12, 0)), at(4, 19, 15));
        due("19:59", x.comes(0, 0, 1, at(4, 19, 59)), at(4, 20, 14));
        due("20:00", x.comes(0, 0, 1, at(4, 20, 0)), at(5, 8, 15));
        due("8:59", x.comes(0, 0, 1, at(5, 8, 59)), at(5, 9, 14));
        due("9:00, then up to 8 never", x.comes(0, 0, 1, at(5, 9, 0)), at(7, 10, 15));
        due("in the second week", x.comes(0, 0, 1, at(12, 8, 59)), at(12, 9, 14));
        due("never again", x.comes(0, 0, 1, at(12, 9, 0)), NONE);
        due("miles have no such hours", x.comes(0, 1, 2, at(2, 13, 0)), at(2, 13, 20));
    }

    /** Terms 3: "for a tunnel: HOUR likewise in what is told for its way (.. never, if only the other way is told)". */
    private static void hoursOfTunnels() {
        WeekBoats x = boatAt(0);
        rules(x, "tunnel 0 up 9 10;tunnel 0 down 11 12;tunnel 14 down 19 20;tunnel 13 up 0 8;tunnel 12 up 20 24;"
            + "tunnel 11 up 12 12;tunnel 10 up 13 12;");
        due("up 8:59", x.comes(0, 0, 1, at(0, 8, 59)), at(0, 9, 20));
        due("up 9:59", x.comes(0, 0, 1, at(0, 9, 59)), at(0, 10, 19));
        due("up 10:00", x.comes(0, 0, 1, at(0, 10, 0)), at(1, 9, 20));
        due("down 10:59", x.comes(0, 1, 0, at(0, 10, 59)), at(0, 11, 20));
        due("down 11:59", x.comes(0, 1, 0, at(0, 11, 59)), at(0, 12, 19));
        due("down 12:00", x.comes(0, 1, 0, at(0, 12, 0)), at(1, 11, 20));
        due("down on the last day", x.comes(0, 1, 0, at(13, 12, 0)), NONE);
        due("down 19:59 of the last day", x.comes(0, 15, 14, at(13, 19, 59)), at(13, 20, 19));
        due("up is not told", x.comes(0, 14, 15, at(0, 8, 0)), NONE);
        due("up to 8 is never", x.comes(0, 13, 14, 0), NONE);
        due("from 20 on is never", x.comes(0, 12, 13, 0), NONE);
        due("12 to 12 is never", x.comes(0, 11, 12, 0), NONE);
        due("13 to 12 is never", x.comes(0, 10, 11, 0), NONE);
        due("down is not told", x.comes(0, 11, 10, 0), NONE);
        due("the end is free", x.stretch(0, 9, 0, 5) ? x.comes(0, 0, 1, at(13, 9, 59)) : NONE, at(13, 12, 59));
    }

    /** Terms 3: "one STEP of 20 minutes a MILE (none with MILES 0)". */
    private static void tunnelWithoutMiles() {
        WeekBoats x = boatAt(0);
        rules(x, "tunnel 2 up 9 10;");
        x.stretch(2, 1, 0, 5);
        due("one mile", x.comes(0, 2, 3, 480), 560);
        due("the other way never", x.comes(0, 3, 2, 480), NONE);
        x.stretch(2, 9, 0, 5);
        due("nine miles", x.comes(0, 2, 3, 480), 540 + 180);
        x.stretch(2, 0, 0, 5);
        due("none", x.comes(0, 2, 3, 480), 480);
        due("none back", x.comes(0, 3, 2, 1300), 1300);
        x.stretch(2, 0, 1, 5);
        due("its lock", x.comes(0, 3, 2, 480), 495);
    }

    /** Terms 3: "15 and (60 less TAUGHT) by 6 minutes". */
    private static void taughtBySix() {
        int[][] taught = {{60, 15}, {59, 15}, {55, 15}, {54, 16}, {49, 16}, {48, 17}, {6, 24}, {5, 24}, {1, 24}, {0, 25}};
        for (int[] t : taught) {
            WeekBoats x = new WeekBoats();
            x.boat(2, 0, 0, t[0]);
            x.stretch(0, 0, 1, 5);
            due("taught " + t[0], x.comes(0, 0, 1, 480), 480 + t[1]);
        }
    }

    /** Terms 3: "not at all, if a STEP can't begin up to 20159"; TIMES 0 .. 20159. */
    private static void lastMinute() {
        WeekBoats x = boatAt(0);
        due("from 0 on", x.comes(0, 0, 1, 0), 500);
        due("at 20159 where it is", x.comes(0, 15, 15, 20159), 20159);
        due("at 20159 no step", x.comes(0, 15, 14, 20159), NONE);
        due("the last step", x.comes(0, 15, 14, at(13, 19, 59)), at(13, 20, 19));
        due("no step of minute 20160", x.comes(0, 15, 15, 20160), NONE);
        due("the longest way: 720 minutes a day", x.comes(0, 0, 15, at(13, 8, 0)), at(13, 13, 0));
        for (int i = 0; i < 15; i++) {
            x.stretch(i, 9, 9, 5);
        }
        // 15 times 180 and 135 minutes, from 8:00 to 20:00: a step that began at 19:59 goes on
        int come = x.comes(0, 0, 15, 0);
        due("it comes, on day 6", come / 1440, 6);
        due("leaving a week later", x.comes(0, 0, 15, 7 * 1440), 7 * 1440 + come);
        due("leaving on day 8 it does not", x.comes(0, 0, 15, 8 * 1440), NONE);
        due("nor there", x.harm(0, 0, 15, 8 * 1440), NONE);
        int[] not = {-1, 20160, LEAST, MOST};
        for (int time : not) {
            due("time " + time, x.comes(0, 0, 0, time), NONE);
        }
    }

    /** Terms 3: "It COMES .. (at once, where it is)": at any hour, on any day. */
    private static void atOnce() {
        WeekBoats x = boatAt(0);
        x.stoppage(0, 0, 13);
        rules(x, "locks 0 0;tunnel 0 up 0 0;tunnel 0 down 0 0;");
        for (int time = 0; time < 20160; time += 677) {
            due("at " + time, x.comes(0, 0, 0, time), time);
        }
        due("no harm", x.harm(0, 0, 0, 3), 0);
        due("there alone", x.maybe(0, 0, 3, 20159), 1);
    }

    /** Terms 3: "POINTS to which it COMES not later than a told TIME"; promise 12: "(not behind that)". */
    private static void notLaterThanTold() {
        WeekBoats x = boatAt(0);
        due("at 500", x.maybe(0, 5, 480, 500), 1 << 4 | 1 << 5 | 1 << 6);
        due("at 499", x.maybe(0, 5, 480, 499), 1 << 5);
        due("at the same time", x.maybe(0, 5, 480, 480), 1 << 5);
        due("behind that", x.maybe(0, 5, 481, 480), NONE);
        due("0", x.maybe(0, 5, 0, 0), 1 << 5);
        due("20159", x.maybe(0, 5, 20159, 20159), 1 << 5);
        due("-1", x.maybe(0, 5, -1, 20159), NONE);
        due("20160", x.maybe(0, 5, 0, 20160), NONE);
        due("both are above", x.maybe(0, 5, 20160, 20160), NONE);
        due("both are below", x.maybe(0, 5, -1, -1), NONE);
    }

    /** Promise 12: "as a set": from POINT 0 (1) to POINT 15 (32768). */
    private static void setOfAllPoints() {
        WeekBoats x = boatAt(0);
        due("0 alone", x.maybe(0, 0, 480, 480), 1);
        due("15 alone", x.maybe(0, 15, 480, 480), 32768);
        due("all of them", x.maybe(0, 0, 480, 780), 65535);
        due("all but the last", x.maybe(0, 0, 480, 779), 32767);
        due("all but the first", x.maybe(0, 15, 480, 779), 65534);
        due("point -1", x.maybe(0, -1, 480, 780), NONE);
        due("point 16", x.maybe(0, 16, 480, 780), NONE);
    }

    /** MAY BE heeds tunnels, hours and STOPPAGES as comes does, both ways. */
    private static void maybeHeeds() {
        WeekBoats x = boatAt(0);
        rules(x, "tunnel 4 down 8 20;tunnel 9 up 8 20;");
        due("neither up through 4 nor down through 9", x.maybe(0, 5, 480, 20159), 65535);
        due("not down through 9", x.maybe(0, 12, 480, 20159), 65535 & ~1023);
        due("not up through 4", x.maybe(0, 2, 480, 20159), 31);
        for (int p = 0; p < 16; p++) {
            int set = 0;
            for (int to = 0; to < 16; to++) {
                int come = x.comes(0, p, to, 1000);
                set |= come != NONE && come <= 1960 ? 1 << to : 0;
            }
            due("as comes from " + p, x.maybe(0, p, 1000, 1960), set);
        }
    }

    /** Terms 3: "E of the harm line that SERVES, cut to 0 .. 999 (0 without one)". */
    private static void harmCut() {
        String[] values = {"0", "1", "998", "999", "1000", "9999", "0 - 1", "4096 * 4096 * 128", "4096 * 4096 * 128 - 1"};
        int[] cut = {0, 1, 998, 999, 999, 999, 0, 0, 999};
        for (int i = 0; i < cut.length; i++) {
            WeekBoats x = boatAt(0);
            x.stretch(0, 0, 1, 5);
            x.stretch(1, 0, 9, 5);
            due("without a line", x.harm(0, 0, 1, 480), 0);
            rules(x, "harm " + values[i] + " when water = 500;");
            due("cut " + values[i], x.harm(0, 0, 1, 480), cut[i]);
            due("each one is cut", x.harm(0, 1, 2, 480), 9 * cut[i]);
            due("all added", x.harm(0, 2, 0, 480), 10 * cut[i]);
            x.water(501);
            due("none serves", x.harm(0, 0, 2, 480), 0);
        }
    }

    /** Terms 3: "on the DAY on which it begins". */
    private static void dayOnWhichItBegins() {
        WeekBoats x = boatAt(0);
        x.stretch(0, 0, 3, 5);
        rules(x, "harm week * 100 + day * 10 + 1;");
        due("three of day 0", x.harm(0, 0, 1, at(0, 19, 29)), 3);
        due("the third on day 1", x.harm(0, 0, 1, at(0, 19, 30)), 1 + 1 + 11);
        due("days 6 and 7", x.harm(0, 0, 1, at(6, 19, 59)), 61 + 101 + 101);
        due("the last day", x.harm(0, 0, 1, at(13, 19, 29)), 3 * 161);
        due("does not come", x.harm(0, 0, 1, at(13, 19, 30)), NONE);
        due("down, too", x.harm(0, 1, 0, at(13, 8, 0)), 3 * 161);
    }

    /** Terms 3: "the farthest POINT on its way (from the first one on, that too) .. not later than DUE; none, if ..". */
    private static void turningBack() {
        WeekBoats x = boatAt(0);
        x.trip(0, 4, 6, 480, 560);
        due("the end of its way", x.back(0, 0), 6);
        x.trip(0, 4, 6, 480, 559);
        due("one less", x.back(1, 0), 5);
        x.trip(0, 4, 6, 480, 520);
        due("just back from 5", x.back(2, 0), 5);
        x.trip(0, 4, 6, 480, 519);
        due("the first one", x.back(3, 0), 4);
        x.trip(0, 4, 6, 480, 480);
        due("at DUE", x.back(4, 0), 4);
        x.trip(0, 4, 6, 480, 479);
        due("TIME behind DUE", x.back(5, 0), NOTHING);
        x.trip(0, 4, 4, 480, 20159);
        due("no farther than its way", x.back(6, 0), 4);
        x.trip(0, 4, 0, 480, 20159);
        due("down to 0", x.back(7, 0), 0);
        x.trip(0, 4, 15, 480, 20159);
        due("up to 15", x.back(8, 0), 15);
        x.trip(0, 4, 15, at(13, 19, 0), 20159);
        due("back at 19:40 from 5, not on that day from 6", x.back(9, 0), 5);
        for (int k : new int[] {-1, 10, LEAST, MOST}) {
            due("k " + k, x.back(k, 0), NOTHING);
        }
        for (int what : new int[] {-1, 2, LEAST, MOST}) {
            due("what " + what, x.back(0, what), NOTHING);
        }
        x.stretch(4, 0, 0, 5);
        due("without miles", x.back(4, 0), 5);
    }

    /** Terms 3: "the days begun of what it is LATE (7 at most; 7 if it does not come) by 7". */
    private static void refundDays() {
        WeekBoats x = boatAt(0);
        rules(x, "price 7 + away * 693;");
        int[][] late = {{1, 1}, {1439, 1}, {1440, 1}, {1441, 2}, {2880, 2}, {2881, 3}, {7200, 5}, {7201, 6}, {8640, 6}, {8641, 7},
            {10080, 7}, {10081, 7}, {20159, 7}};
        int k = 0;
        for (int[] l : late) {
            x.trip(0, 3, 3, 20159, 20159 - l[0]);
            due("late", x.late(k), l[0]);
            due("days of " + l[0], x.back(k, 1), l[1]);
            k++;
        }
        x.trip(0, 3, 3, 20159, 20159);
        due("not late", x.back(k, 1), 0);
        x.trip(0, 3, 4, 20159, 20159);
        due("does not come", x.late(k + 1), 20160);
        due("7 days, away", x.back(k + 1, 1), 700);
    }

    /** Terms 3: "for the WEEK of TIME's DAY (by 7)"; quotients go towards 0. */
    private static void refundWeeks() {
        WeekBoats x = boatAt(0);
        rules(x, "price 70 when week = 0 and away = 0;price 140 when week = 1 and away = 0;price 0 - 20 when away = 1;");
        x.trip(0, 3, 3, at(6, 23, 59), at(6, 23, 58));
        due("day 6", x.back(0, 1), 10);
        x.trip(0, 3, 3, at(7, 0, 0), at(6, 23, 59));
        due("day 7", x.back(1, 1), 20);
        x.trip(0, 3, 3, at(13, 0, 0), at(12, 0, 0));
        due("day 13", x.back(2, 1), 20);
        x.trip(0, 3, 4, at(0, 8, 0), at(0, 8, 19));
        due("20 by 7, towards 0", x.back(3, 1), -2);
        rules(x, "price 4096 * 4096 * 127;");
        x.trip(0, 3, 4, at(0, 8, 0), 0);
        x.trip(0, 4, 5, at(13, 21, 0), 20159);
        due("a great price for all of it", x.back(5, 1), 4096 * 4096 * 127);
    }

    /** Promise 14: "REFUND (0 if it is not LATE). NONE - 999999 if there is none (no price line SERVES)". */
    private static void refundNone() {
        WeekBoats x = boatAt(0);
        due("no trips", x.back(0, 1), NOTHING);
        x.trip(0, 0, 1, 480, 500);
        x.trip(0, 0, 1, 480, 499);
        x.trip(0, 0, 1, at(7, 8, 0), at(7, 8, 19));
        due("in time, no line", x.back(0, 1), 0);
        due("late, no line", x.back(1, 1), NOTHING);
        rules(x, "price 7 when week = 1;");
        due("late, none of this week", x.back(1, 1), NOTHING);
        due("late in the week it serves", x.back(2, 1), 1);
        due("no such trip", x.back(3, 1), NOTHING);
    }

    /** Terms 3: "RUNG are TRIPS that are LATE, and would not be without STOPPAGES". */
    private static void rungByAMinute() {
        WeekBoats x = boatAt(0);
        x.stoppage(0, 0, 0);
        x.trip(0, 0, 1, 480, at(1, 8, 20));
        x.trip(0, 0, 1, 480, at(1, 8, 19));
        x.trip(0, 0, 1, 480, 500);
        x.trip(0, 0, 1, 480, 499);
        due("in time; late by one; in time without; late without", x.rung(), 2 | 4);
        x.trip(0, 1, 1, 480, 479);
        due("late where it is", x.rung(), 2 | 4);
        x.stoppage(0, 1, 13);
        due("none comes now", x.rung(), 1 | 2 | 4);
        x.trip(0, 0, 1, at(13, 20, 0), 20159);
        due("never comes anyway", x.rung(), 1 | 2 | 4);
        x.stoppage(NONE, 0, 0);
        due("no stoppages", x.rung(), 0);
    }

    /** Promise 19: "its number; NONE if .. there are 20"; promise 15: "as a set of TRIPS". */
    private static void twentyTrips() {
        WeekBoats x = boatAt(0);
        x.boat(4, 10, 0, 0);
        x.stretch(5, 0, 1, 5);
        x.stoppage(0, 0, 0);
        for (int k = 0; k < 20; k++) {
            due("trip " + k, x.trip(k % 2, k == 19 ? 0 : 5, k == 19 ? 1 : 6, 480, 600 - k), k);
        }
        due("one more", x.trip(0, 0, 1, 480, 0), NONE);
        due("20", x.look(1), 20);
        due("the last one is rung", x.rung(), 1 << 19);
        due("no trip 20", x.late(20), NONE);
        due("no trip 20", x.back(20, 0), NOTHING);
        due("one is late", x.late(NONE), 1);
        x.stretch(5, 4, 1, 5);
        // 8:00, 80 minutes, then 15 of boat 0 or 25 of boat 1: due are 600, 599, ..
        due("boat 0 in time", x.late(18), 0);
        due("boat 1", x.late(17), 2);
        due("boat 1 in time", x.late(15), 0);
        due("two more", x.late(NONE), 2);
    }

    /** Promise 16: "A POINT is a PUMP, or not: true; false if one can't be". */
    private static void pumpPoints() {
        WeekBoats x = boatAt(0);
        for (int p = 0; p < 16; p++) {
            due("no pump at " + p, x.pumped(0, p, 480, 480, 0), NONE);
            due("pump " + p, x.pump(p, true), true);
            due("there", x.pumped(0, p, 480, 480, 0), p);
            due("again", x.pump(p, true), true);
            due("not any more", x.pump(p, false), true);
            due("not once more", x.pump(p, false), true);
        }
        for (int p : new int[] {-1, 16, LEAST, MOST, 32}) {
            due("pump " + p, x.pump(p, true), false);
            due("no pump " + p, x.pump(p, false), false);
        }
        due("none", x.pumped(0, 0, 480, 480, 0), NONE);
    }

    /** Terms 3: "that where it COMES first; of several the least POINT". */
    private static void nextPump() {
        WeekBoats x = boatAt(0);
        x.pump(0, true);
        x.pump(15, true);
        due("0 is as near as 15 from 7 and nearer", x.pumped(0, 7, 480, 0, 0), 0);
        due("15 from 8", x.pumped(0, 8, 480, 0, 0), 15);
        x.stretch(14, 0, 0, 5);
        due("both at 620: the least", x.pumped(0, 7, 480, 0, 0), 0);
        due("when", x.pumped(0, 7, 480, 0, 1), 620);
        x.stoppage(3, 0, 13);
        due("0 is not come to", x.pumped(0, 7, 480, 0, 0), 15);
        x.stoppage(9, 0, 13);
        for (int what = 0; what < 3; what++) {
            due("neither is", x.pumped(0, 7, 480, 0, what), NONE);
        }
        due("where it is, at any minute", x.pumped(0, 15, 20159, 0, 1), 20159);
        x.stretch(0, 0, 0, 5);
        x.pump(1, true);
        due("0 and 1 at once: the least", x.pumped(0, 1, 3, 3, 0), 0);
        for (int what : new int[] {-1, 3, LEAST, MOST}) {
            due("what " + what, x.pumped(0, 0, 480, 0, what), NONE);
        }
    }

    /** Terms 3: "FULL 10080 minutes behind the minute from which on it has been used"; 17: "FULL ahead of that". */
    private static void fullAhead() {
        WeekBoats x = boatAt(0);
        x.pump(3, true);
        int time = at(10, 8, 0);
        due("at 8:20", x.pumped(0, 2, time, 0, 1), time + 20);
        due("full at 8:19", x.pumped(0, 2, time, time + 19 - 10080, 2), 1);
        due("full at 8:20 is not ahead", x.pumped(0, 2, time, time + 20 - 10080, 2), 0);
        due("full at 8:21", x.pumped(0, 2, time, time + 21 - 10080, 2), 0);
        due("from 0 on", x.pumped(0, 2, time, 0, 2), 1);
        due("where it is: full at its minute", x.pumped(0, 3, 10080, 0, 2), 0);
        due("where it is: full a minute ahead", x.pumped(0, 3, 10081, 0, 2), 1);
        due("since as time", x.pumped(0, 3, 20159, 20159, 2), 0);
        due("since behind time", x.pumped(0, 3, time, time + 1, 2), NONE);
        due("since below 0", x.pumped(0, 3, time, -1, 2), NONE);
        due("since below 0", x.pumped(0, 3, time, LEAST, 0), NONE);
    }

    /** Terms 3: "the least m 0 .. 60 .. not later than told"; promise 18: "NONE if there is none". */
    private static void enoughTaught() {
        WeekBoats x = new WeekBoats();
        x.boat(4, 10, 0, 0);
        x.stretch(0, 0, 9, 5);
        due("m 0", x.enough(0, 0, 1, 480, 705), 0);
        // then 9 locks of 24 minutes from m 1 on, of 23 from m 7 on, .. of 15 from m 55 on
        int[][] least = {{704, 1}, {697, 1}, {696, 7}, {694, 7}, {693, 13}, {676, 43}, {675, 49}, {673, 49}, {672, 55},
            {670, 55}, {669, NONE}};
        for (int[] l : least) {
            due("by " + l[0], x.enough(0, 0, 1, 480, l[0]), l[1]);
        }
        due("m 55 at 8:00", x.enough(0, 0, 1, 425, 480 + 135), 55);
        due("none at all", x.enough(0, 0, 1, 426, 615), NONE);
        due("where it is", x.enough(0, 1, 1, 480, 480), 0);
        due("behind it", x.enough(0, 1, 1, 480, 479), NONE);
        due("at 20159", x.enough(0, 1, 1, 20159, 20159), 0);
        due("leaving behind 20159: none", x.enough(0, 1, 1, 20159, 20158), NONE);
        for (int due : new int[] {-1, 20160, LEAST, MOST}) {
            due("due " + due, x.enough(0, 1, 1, 0, due), NONE);
        }
        x.stoppage(0, 0, 0);
        due("a stoppage", x.enough(0, 0, 1, 480, 705), NONE);
        due("the day behind it", x.enough(0, 0, 1, 480, 1440 + 705), 0);
        due("on the day behind it, taught", x.enough(0, 0, 1, 480, 1440 + 480 + 135), 55);
    }

    /** Promise 19: "NONE if one can't be": BOAT, POINTS, TIME and DUE. */
    private static void tripNumbers() {
        WeekBoats x = boatAt(0);
        int[][] bad = {{-1, 0, 1, 480, 500}, {1, 0, 1, 480, 500}, {0, -1, 1, 480, 500}, {0, 16, 1, 480, 500}, {0, 0, -1, 480, 500},
            {0, 0, 16, 480, 500}, {0, 0, 1, -1, 500}, {0, 0, 1, 20160, 500}, {0, 0, 1, 480, -1}, {0, 0, 1, 480, 20160},
            {LEAST, 0, 1, 480, 500}, {0, 0, 1, 480, MOST}};
        for (int[] b : bad) {
            due("trip " + b[0] + " " + b[1] + " " + b[2] + " " + b[3] + " " + b[4], x.trip(b[0], b[1], b[2], b[3], b[4]), NONE);
            due("no trip", x.look(1), 0);
        }
        due("the least of all", x.trip(0, 0, 0, 0, 0), 0);
        due("the most of all", x.trip(0, 15, 15, 20159, 20159), 1);
        due("due ahead of its time", x.trip(0, 15, 0, 20159, 0), 2);
        due("in time", x.late(0) + x.late(1), 0);
        due("not", x.late(2), 20160);
    }

    /** Terms 3: "by how many minutes it COMES behind DUE (0 not; 20160 if it does not come)"; promise 20. */
    private static void lateBy() {
        WeekBoats x = boatAt(0);
        due("none of none", x.late(NONE), 0);
        x.trip(0, 0, 1, 480, 501);
        x.trip(0, 0, 1, 480, 500);
        x.trip(0, 0, 1, 480, 499);
        x.trip(0, 2, 2, 20159, 0);
        x.trip(0, 0, 1, at(13, 20, 0), 20159);
        int[] late = {0, 0, 1, 20159, 20160};
        for (int k = 0; k < 5; k++) {
            due("trip " + k, x.late(k), late[k]);
        }
        due("three", x.late(NONE), 3);
        for (int k : new int[] {5, -2, 20, LEAST, MOST}) {
            due("none such: " + k, x.late(k), NONE);
        }
    }

    /** Promise 21: "NONE if one can't be (a TIME not above the last one's)". */
    private static void risingLogs() {
        WeekBoats x = boatAt(0);
        x.boat(4, 10, 0, 60);
        due("at 0", x.log(0, 0, 0), 1);
        due("not above", x.log(0, 0, 0), NONE);
        due("above by one", x.log(0, 15, 1), 2);
        due("below", x.log(0, 0, 0), NONE);
        due("the last minute", x.log(0, 0, 20159), 3);
        due("none is above", x.log(0, 0, 20159), NONE);
        due("of another boat", x.log(1, 0, 0), 1);
        int[][] bad = {{-1, 0, 5}, {2, 0, 5}, {1, -1, 5}, {1, 16, 5}, {1, 0, -1}, {1, 0, 20160}, {1, 0, MOST}, {1, LEAST, 5}};
        for (int[] b : bad) {
            due("log " + b[0] + " " + b[1] + " " + b[2], x.log(b[0], b[1], b[2]), NONE);
        }
        due("the next of it", x.log(1, 0, 5), 2);
        due("a refused one counts not", x.tonight(20159, 15) & 1, 0);
    }

    /** Promise 21: "how many the BOAT has; NONE if .. it has ten". */
    private static void tenLogs() {
        WeekBoats x = boatAt(15);
        x.boat(4, 10, 15, 60);
        for (int n = 1; n <= 10; n++) {
            due("log " + n, x.log(0, n, 1000 + n * 100), n);
        }
        due("it has ten", x.log(0, 11, 5000), NONE);
        due("the tenth is there", x.could(0, 10, 2000, 2000), 1);
        due("nowhere else then", x.could(0, 9, 2000, 2000), 0);
        due("an eleventh is not", x.could(0, 15, 5000, 5000), 1);
        due("the other has none", x.log(1, 0, 5000), 1);
    }

    /** Promise 22: "from a TIME to another one: 1 or 0; NONE if one can't be (from behind to)". */
    private static void spans() {
        WeekBoats x = boatAt(0);
        due("one minute", x.could(0, 0, 0, 0), 1);
        due("the last minute", x.could(0, 0, 20159, 20159), 1);
        due("all", x.could(0, 15, 0, 20159), 1);
        due("behind by one", x.could(0, 0, 1, 0), NONE);
        int[][] bad = {{-1, 0, 0, 9}, {1, 0, 0, 9}, {0, -1, 0, 9}, {0, 16, 0, 9}, {0, 0, -1, 9}, {0, 0, 0, 20160},
            {0, 0, 20160, 20160}, {0, 0, -2, -1}, {LEAST, 0, 0, 9}, {0, MOST, 0, 9}, {0, 0, LEAST, 9}, {0, 0, 9, MOST}};
        for (int[] b : bad) {
            due("could " + b[0] + " " + b[1] + " " + b[2] + " " + b[3], x.could(b[0], b[1], b[2], b[3]), NONE);
        }
    }

    /** Terms 3: "(without a LOG ahead: at HOME from TIME 0 on; without one behind: anything)". */
    private static void withoutLogs() {
        WeekBoats x = boatAt(5);
        due("5 at 0", x.could(0, 5, 0, 0), 1);
        due("6 at 499", x.could(0, 6, 0, 499), 0);
        due("6 at 500", x.could(0, 6, 0, 500), 1);
        due("6 at 500 alone", x.could(0, 6, 500, 500), 1);
        due("anything behind", x.could(0, 6, 20159, 20159), 1);
        x.stoppage(5, 0, 12);
        due("a stoppage up to day 12", x.could(0, 6, 0, at(13, 8, 19)), 0);
        due("then it can", x.could(0, 6, 0, at(13, 8, 20)), 1);
        x.stoppage(5, 13, 13);
        due("never", x.could(0, 6, 0, 20159), 0);
        x.log(0, 6, 20159);
        due("but a log says so", x.could(0, 6, 20159, 20159), 1);
        due("only then", x.could(0, 6, 0, 20158), 0);
        due("it cannot have been at home ahead of it", x.could(0, 5, 0, 20158), 0);
    }

    /** Terms 3: "the last LOG not behind t, .. to the next LOG (behind t) not later than that one's TIME". */
    private static void betweenLogs() {
        WeekBoats x = boatAt(5);
        x.log(0, 5, 500);
        x.log(0, 7, 540);
        due("6 at 520", x.could(0, 6, 520, 520), 1);
        due("6 at 519", x.could(0, 6, 0, 519), 0);
        due("6 at 521 is too late for 7", x.could(0, 6, 521, 539), 0);
        due("6 again behind 7", x.could(0, 6, 521, 559), 0);
        due("at 560", x.could(0, 6, 521, 560), 1);
        due("at the log", x.could(0, 7, 540, 540), 1);
        due("a minute ahead", x.could(0, 7, 500, 539), 0);
        due("at the first log", x.could(0, 5, 500, 500), 1);
        due("a minute behind", x.could(0, 5, 501, 539), 0);
        due("at home ahead of the first", x.could(0, 5, 0, 499), 1);
        due("4 and back is not", x.could(0, 4, 0, 559), 0);
        x.log(0, 7, 580);
        due("8 at 560 and back", x.could(0, 8, 541, 579), 1);
        due("8 at 561 is too late", x.could(0, 8, 561, 579), 0);
        due("7 at 579", x.could(0, 7, 579, 579), 1);
        due("7 all the time", x.could(0, 7, 541, 541), 1);
        x.log(0, 8, 581);
        due("8 a minute later: not come to in time", x.could(0, 7, 580, 580), 0);
        due("at that log itself", x.could(0, 8, 581, 581), 1);
        due("that cannot have been", x.could(0, 7, 580, 600), 0);
        due("7 from 8", x.could(0, 7, 580, 601), 1);
    }

    /** Promise 23: "WHOSE (what 0), SURE (1; NONE: nobody is). NONE if one can't be, or another what". */
    private static void whose() {
        WeekBoats x = new WeekBoats();
        due("no boats", x.whose(0, 0, 20159, 0), 0);
        due("nobody", x.whose(0, 0, 20159, 1), NONE);
        for (int b = 0; b < 10; b++) {
            x.boat(4, 10, b, 60);
        }
        due("9 is sure", x.whose(9, 0, 0, 1), 9);
        due("9 alone", x.whose(9, 0, 0, 0), 512);
        due("0 is sure", x.whose(0, 0, 499, 1), 0);
        due("two", x.whose(0, 0, 500, 0), 3);
        due("nobody is sure", x.whose(0, 0, 500, 1), NONE);
        due("all ten", x.whose(0, 0, 20159, 0), 1023);
        due("none at 15", x.whose(15, 0, 480 + 119, 0), 0);
        due("nobody at 15", x.whose(15, 0, 480 + 119, 1), NONE);
        due("the last boat at 15", x.whose(15, 0, 480 + 120, 1), 9);
        int[][] bad = {{-1, 0, 9, 0}, {16, 0, 9, 0}, {0, -1, 9, 0}, {0, 0, 20160, 0}, {0, 10, 9, 0}, {0, 0, 9, -1}, {0, 0, 9, 2},
            {0, 20160, 20160, 0}, {0, -1, -1, 1}, {LEAST, 0, 9, 1}, {0, 0, MOST, 1}, {0, 0, 9, MOST}};
        for (int[] b : bad) {
            due("whose " + b[0] + " " + b[1] + " " + b[2] + " " + b[3], x.whose(b[0], b[1], b[2], b[3]), NONE);
        }
    }

    /** Terms 3: "from its last LOG not behind that (from HOME and TIME 0 without one)"; promise 24. */
    private static void tonight() {
        WeekBoats x = boatAt(0);
        x.log(0, 15, 480);
        due("at home up to 479", x.tonight(479, 0), 1);
        due("at 15 from 480 on", x.tonight(480, 15), 1);
        due("not at home", x.tonight(480, 0), 0);
        due("14 at 499", x.tonight(499, 14), 0);
        due("14 at 500", x.tonight(500, 14), 1);
        due("the crowd, the least", x.tonight(500, 16), 14);
        due("one there", x.tonight(500, 17), 1);
        due("the whole canal by night", x.tonight(1200, 16), 0);
        x.log(0, 15, 499);
        due("the later log", x.tonight(500, 14), 0);
        due("the earlier one ahead of it", x.tonight(498, 15), 1);
        for (int time : new int[] {-1, 20160, LEAST, MOST}) {
            due("time " + time, x.tonight(time, 0), NONE);
            due("time " + time, x.tonight(time, 16), NONE);
        }
        for (int what : new int[] {-1, 18, LEAST, MOST}) {
            due("what " + what, x.tonight(500, what), NONE);
        }
        due("the last minute", x.tonight(20159, 15), 1);
    }

    /** Promise 24: "the BOATS that MAY BE at that POINT, as a set, 16 THE CROWD, 17 how many MAY BE there". */
    private static void tenBoatsTonight() {
        WeekBoats x = new WeekBoats();
        due("nobody: the least", x.tonight(480, 16), 0);
        due("nobody", x.tonight(480, 17), 0);
        for (int b = 0; b < 10; b++) {
            x.boat(4, 10, 15 - b, 60);
        }
        due("the last boat at 6", x.tonight(0, 6), 512);
        due("nobody at 0", x.tonight(0, 0), 0);
        due("the first boat at 15", x.tonight(0, 15), 1);
        due("the least of ten", x.tonight(0, 16), 6);
        due("one there", x.tonight(0, 17), 1);
        due("all at 0", x.tonight(480 + 300, 0), 1023);
        due("all but one at 0", x.tonight(480 + 299, 0), 1022);
        due("the crowd of all", x.tonight(480 + 299, 16), 1);
        due("ten there", x.tonight(480 + 299, 17), 10);
    }
}
