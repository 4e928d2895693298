/**
 * The boundaries that promises 1 to 10 and 41 to 43 name: for each sentence the last value that is
 * taken and the first one that is not, the empty and the full, and what wraps.
 */
public final class BoundsRules {
    private static final int NONE = -1;
    private static final int NOTHING = -1000000;
    private static final int LEAST = Integer.MIN_VALUE;
    private static final int MOST = Integer.MAX_VALUE;
    private static int wrong = 0;

    private static void due(String what, long got, long want) {
        if (got != want) {
            wrong++;
            System.out.println(what + " answered " + got + ", due is " + want);
        }
    }

    private static void due(String what, boolean got, boolean want) {
        due(what, got ? 1 : 0, want ? 1 : 0);
    }

    public static void main(String[] args) {
        noBoats();
        stretchesAtFirst();
        milesLocksRoad();
        refusedStretch();
        water();
        stoppageNumbers();
        eightStoppages();
        boatNumbers();
        tenBoats();
        tapeOf500();
        highestFirst();
        endOfTape();
        rulesAreTheTape();
        latestRules();
        numbersOfFourDigits();
        hoursUpTo24();
        stretchesUpTo14();
        partByNothing();
        sixteenLines();
        stretchToldTwice();
        eightOpen();
        theLeastAtOnePlace();
        whatCannotStand();
        tokens();
        manyRules();
        intsThatWrap();
        openDays();
        othersAreNothing();
        priceWeeks();
        heldNumbers();
        look();
        System.out.println(wrong == 0 ? "all answers are as due" : wrong + " answers are not as due");
        if (wrong != 0) {
            System.exit(1);
        }
    }

    private static void feed(WeekBoats x, String text) {
        for (int i = 0; i < text.length(); i += 20) {
            int[] n = new int[5];
            for (int k = 0; k < 20; k++) {
                n[k / 4] = n[k / 4] << 8 | (i + k < text.length() ? text.charAt(i + k) : ' ');
            }
            x.feed(n[0], n[1], n[2], n[3], n[4]);
        }
        due("end of " + text, x.end(text.length()), true);
    }

    private static int rules(WeekBoats x, String text) {
        feed(x, text);
        return x.rules();
    }

    private static void good(String text, int lines) {
        WeekBoats x = new WeekBoats();
        due("rules of " + text, rules(x, text), lines);
        due("fault of " + text, x.fault(0), 0);
        due("place in " + text, x.fault(1), NONE);
    }

    private static void faulty(String text, int fault, int place) {
        WeekBoats x = new WeekBoats();
        due("rules of " + text, rules(x, text), NONE);
        due("fault of " + text, x.fault(0), fault);
        due("place in " + text, x.fault(1), place);
    }

    private static String times(String s, int n) {
        StringBuilder all = new StringBuilder();
        for (int i = 0; i < n; i++) {
            all.append(s);
        }
        return all.toString();
    }

    /** Promise 1: "No BOATS": whatever tells of BOAT 0 is refused, and nothing else is there. */
    private static void noBoats() {
        WeekBoats x = new WeekBoats();
        due("boats", x.look(0), 0);
        due("comes", x.comes(0, 0, 0, 0), NONE);
        due("maybe", x.maybe(0, 0, 0, 0), NONE);
        due("harm", x.harm(0, 0, 0, 0), NONE);
        due("pumped", x.pumped(0, 0, 0, 0, 0), NONE);
        due("enough", x.enough(0, 0, 0, 0, 0), NONE);
        due("trip", x.trip(0, 0, 0, 0, 0), NONE);
        due("log", x.log(0, 0, 0), NONE);
        due("could", x.could(0, 0, 0, 0), NONE);
        due("gas", x.gas(0, 0, 1), false);
        due("given", x.given(1, 0), NONE);
        due("more", x.more(1, 2, 0), NONE);
        due("price", x.price(0, 0, true), NOTHING);
        due("held", x.held(0, 0, 0, 0), NOTHING);
        due("whose", x.whose(0, 0, 20159, 0), 0);
        due("tonight", x.tonight(0, 17), 0);
        due("dock", x.dock(2), 0);
        due("trips", x.back(0, 0), NOTHING);
        due("rung", x.rung(), 0);
        due("queue", x.lock(10), NONE);
        due("jobs", x.turned(1, 10), NONE);
        due("calls", x.taken(0, 0, 10), NONE);
        due("weights", x.van(1), 0);
        due("the first boat", x.boat(2, 0, 0, 0), 0);
    }

    /** Terms 1: "MILES 0 .. 9, LOCKS 0 .. 9 (1 and 0 at first), ROAD 1 .. 99 (.., 5 at first)"; water 500. */
    private static void stretchesAtFirst() {
        WeekBoats x = new WeekBoats();
        x.boat(2, 0, 0, 0);
        x.weight(0, 1);
        for (int i = 0; i < 15; i++) {
            due("mile of " + i, x.comes(0, i, i + 1, 480), 500);
            due("mile back of " + i, x.comes(0, i + 1, i, 480), 500);
            due("road to " + (i + 1), x.van(101 + i), 5 * (i + 1));
        }
        due("water", x.look(6), 500);
        due("500 are not below 500", x.left(0, 0, 0, 500, 0), 1000000);
        due("500 are below 501", x.left(0, 0, 0, 501, 0), 0);
    }

    /** Promise 2: "MILES, LOCKS, ROAD of a STRETCH: true". */
    private static void milesLocksRoad() {
        for (int i = 0; i < 15; i += 14) {
            WeekBoats x = new WeekBoats();
            x.boat(2, 0, 0, 60);
            x.weight(i, 1);
            due("9 miles", x.stretch(i, 9, 0, 1), true);
            due("9 miles last", x.comes(0, i, i + 1, 480), 480 + 180);
            due("1 minute", x.van(101 + i), 1);
            due("9 locks", x.stretch(i, 0, 9, 99), true);
            due("9 locks last", x.comes(0, i, i + 1, 480), 480 + 135);
            due("99 minutes", x.van(101 + i), 99);
            due("neither", x.stretch(i, 0, 0, 5), true);
            due("nothing lasts", x.comes(0, i, i + 1, 100), 100);
        }
    }

    /** Promise 2: "false, and nothing is done, if one can't be". */
    private static void refusedStretch() {
        WeekBoats x = new WeekBoats();
        x.boat(2, 0, 0, 60);
        x.weight(1, 1);
        x.stretch(0, 2, 1, 10);
        int[][] bad = {{-1, 3, 3, 3}, {15, 3, 3, 3}, {0, -1, 3, 3}, {0, 10, 3, 3}, {0, 3, -1, 3}, {0, 3, 10, 3},
            {0, 3, 3, 0}, {0, 3, 3, 100}, {0, 3, 3, -1}, {LEAST, 3, 3, 3}, {MOST, 3, 3, 3}, {0, LEAST, 3, 3},
            {0, 3, MOST, 3}, {0, 3, 3, LEAST}};
        for (int[] b : bad) {
            String name = "stretch " + b[0] + " " + b[1] + " " + b[2] + " " + b[3];
            due(name, x.stretch(b[0], b[1], b[2], b[3]), false);
            due("miles and locks behind " + name, x.comes(0, 0, 1, 480), 480 + 40 + 15);
            due("road behind " + name, x.van(100), 10);
            due("the next one behind " + name, x.comes(0, 1, 2, 480), 500);
            due("the last one behind " + name, x.comes(0, 14, 15, 480), 500);
        }
    }

    /** Promise 3: "WATER: true; false if it can't be"; Terms 1: "WATER 0 .. 999". */
    private static void water() {
        WeekBoats x = new WeekBoats();
        int[] taken = {0, 999, 1, 998};
        int[] not = {-1, 1000, LEAST, MOST};
        for (int i = 0; i < 4; i++) {
            due("water " + taken[i], x.water(taken[i]), true);
            due("is " + taken[i], x.look(6), taken[i]);
            due("water " + not[i], x.water(not[i]), false);
            due("still " + taken[i], x.look(6), taken[i]);
        }
    }

    /** Promise 4: "NONE if one can't be"; Terms 1: "a STRETCH, from a DAY to a DAY (0 .. 13)". */
    private static void stoppageNumbers() {
        WeekBoats x = new WeekBoats();
        x.boat(2, 0, 0, 60);
        int[][] bad = {{15, 0, 0}, {-2, 0, 0}, {LEAST, 0, 0}, {MOST, 0, 0}, {0, -1, 5}, {0, 14, 14}, {0, 5, 14},
            {0, 5, 4}, {0, 13, 12}, {0, LEAST, 5}, {0, 0, MOST}};
        for (int[] b : bad) {
            due("stoppage " + b[0] + " " + b[1] + " " + b[2], x.stoppage(b[0], b[1], b[2]), NONE);
        }
        due("none of them", x.look(5), 0);
        due("no day is stopped", x.comes(0, 0, 1, 480), 500);
        due("one day", x.stoppage(0, 5, 5), 1);
        due("the day ahead is free", x.comes(0, 0, 1, 4 * 1440 + 1199), 4 * 1440 + 1219);
        due("the day is not", x.comes(0, 0, 1, 5 * 1440), 6 * 1440 + 500);
        due("the last day", x.stoppage(14, 13, 13), 2);
        due("is stopped", x.comes(0, 14, 15, 12 * 1440 + 1200), NONE);
        due("the day ahead is not", x.comes(0, 14, 15, 12 * 1440 + 1199), 12 * 1440 + 1219);
        due("the first day", x.stoppage(7, 0, 0), 3);
        due("day 1 is free", x.comes(0, 7, 8, 0), 1440 + 500);
        due("all days", x.stoppage(8, 0, 13), 4);
        due("none is free", x.comes(0, 8, 9, 0), NONE);
    }

    /** Promise 4: "(i NONE: there are none any more): how many; NONE if .. there are eight". */
    private static void eightStoppages() {
        WeekBoats x = new WeekBoats();
        x.boat(2, 0, 0, 60);
        due("none of none", x.stoppage(NONE, 0, 0), 0);
        for (int n = 1; n <= 8; n++) {
            due("stoppage " + n, x.stoppage(n, 0, n), n);
        }
        due("a ninth", x.stoppage(0, 0, 13), NONE);
        due("eight", x.look(5), 8);
        due("the ninth is none", x.comes(0, 0, 1, 480), 500);
        due("the eighth is", x.comes(0, 8, 9, 480), 9 * 1440 + 500);
        due("all gone", x.stoppage(NONE, 0, 0), 0);
        due("none", x.look(5), 0);
        due("free", x.comes(0, 0, 15, 480), 480 + 300);
        due("the first again", x.stoppage(0, 0, 0), 1);
        due("the others are gone", x.comes(0, 8, 9, 480), 500);
    }

    /** Promise 5: "NONE if one can't be"; Terms 1: "BERTHS 2 .. 12, AGE 0 .. 99, HOME (a POINT), TAUGHT 0 .. 60". */
    private static void boatNumbers() {
        WeekBoats x = new WeekBoats();
        int[][] bad = {{1, 9, 9, 9}, {13, 9, 9, 9}, {9, -1, 9, 9}, {9, 100, 9, 9}, {9, 9, -1, 9}, {9, 9, 16, 9},
            {9, 9, 9, -1}, {9, 9, 9, 61}, {LEAST, 9, 9, 9}, {9, MOST, 9, 9}, {9, 9, LEAST, 9}, {9, 9, 9, MOST}};
        for (int[] b : bad) {
            due("boat " + b[0] + " " + b[1] + " " + b[2] + " " + b[3], x.boat(b[0], b[1], b[2], b[3]), NONE);
            due("no boat", x.look(0), 0);
        }
        rules(x, "price berths * 100 + age;");
        x.stretch(0, 0, 1, 1);
        due("the least of all", x.boat(2, 0, 0, 0), 0);
        due("the most of all", x.boat(12, 99, 15, 60), 1);
        due("2 berths, age 0", x.price(0, 0, false), 200);
        due("12 berths, age 99", x.price(1, 0, false), 1299);
        due("home 0", x.tonight(0, 0), 1);
        due("home 15", x.tonight(0, 15), 2);
        due("taught 0", x.comes(0, 0, 1, 480), 480 + 25);
        due("taught 60", x.comes(1, 0, 1, 480), 480 + 15);
    }

    /** Promise 5: "its number; NONE if .. there are ten". */
    private static void tenBoats() {
        WeekBoats x = new WeekBoats();
        for (int b = 0; b < 10; b++) {
            due("boat " + b, x.boat(2 + b, b, b, 6 * b), b);
            due("boats", x.look(0), b + 1);
        }
        due("an eleventh", x.boat(12, 99, 15, 60), NONE);
        due("ten", x.look(0), 10);
        due("none of number 10", x.comes(10, 0, 0, 0), NONE);
        due("the last one comes", x.comes(9, 9, 9, 7), 7);
        rules(x, "price berths;");
        due("it is as it was told", x.price(9, 0, false), 11);
        due("nobody at 15", x.tonight(0, 15), 0);
    }

    /** Promise 6: "how many it has. NONE, and nothing comes, if there would be more than 500". */
    private static void tapeOf500() {
        WeekBoats x = new WeekBoats();
        x.boat(2, 0, 0, 0);
        int blanks = 0x20202020;
        int line = 0x686f6c64;
        due("the first twenty", x.feed(line, 0x2037203b, blanks, blanks, blanks), 20);
        for (int n = 40; n <= 500; n += 20) {
            due("to " + n, x.feed(blanks, blanks, blanks, blanks, blanks), n);
        }
        due("500 is full", x.feed(line, 0x2038203b, blanks, blanks, blanks), NONE);
        due("499", x.end(499), true);
        due("499 and 20", x.feed(line, 0x2038203b, blanks, blanks, blanks), NONE);
        due("481", x.end(481), true);
        due("481 and 20 are 501", x.feed(line, 0x2038203b, blanks, blanks, blanks), NONE);
        due("nothing came: 482", x.end(482), false);
        due("480", x.end(480), true);
        due("480 and 20 are 500", x.feed(blanks, blanks, blanks, blanks, 0x2020203b), 500);
        due("the last byte is there", x.rules(), NONE);
        due("it cannot stand", x.fault(0), 1);
        due("at 499", x.fault(1), 499);
        due("empty then", x.feed(line, 0x2037203b, blanks, blanks, blanks), 20);
        due("one line", x.rules(), 1);
        due("of 7", x.held(0, 0, 0, 0), 7);
    }

    /** Promise 6: "Twenty bytes come behind the TAPE, of each number the highest first". */
    private static void highestFirst() {
        int[] at = {0, 4, 8, 12, 16};
        for (int a : at) {
            for (int k = 0; k < 4; k++) {
                WeekBoats x = new WeekBoats();
                int[] n = {0x20202020, 0x20202020, 0x20202020, 0x20202020, 0x20202020};
                n[a / 4] = n[a / 4] & ~(255 << 24 - 8 * k) | 0xff << 24 - 8 * k;
                due("fed", x.feed(n[0], n[1], n[2], n[3], n[4]), 20);
                due("byte " + (a + k), x.rules(), NONE);
                due("255 cannot stand", x.fault(0), 1);
                due("byte " + (a + k), x.fault(1), a + k);
            }
        }
    }

    /** Promise 7: "true; false, changing nothing, if it has not so many, or n is below 0". */
    private static void endOfTape() {
        WeekBoats x = new WeekBoats();
        x.boat(2, 0, 0, 0);
        due("nothing of nothing", x.end(0), true);
        due("1 of nothing", x.end(1), false);
        feed(x, "hold 12;;");
        int[] not = {10, -1, LEAST, MOST, 501};
        for (int n : not) {
            due("end " + n, x.end(n), false);
        }
        due("all nine", x.end(9), true);
        due("eight", x.end(8), true);
        due("nine are no more", x.end(9), false);
        due("changing nothing", x.rules(), 1);
        due("12", x.held(0, 0, 0, 0), 12);
        feed(x, "hold 13;");
        due("nothing of it", x.end(0), true);
        due("no line", x.rules(), 0);
        due("no rules", x.held(0, 0, 0, 0), 0);
    }

    /** Promise 8: "The TAPE, empty then .. NONE: a FAULT (they stay as they were; the TAPE is empty)". */
    private static void rulesAreTheTape() {
        WeekBoats x = new WeekBoats();
        x.boat(2, 0, 0, 0);
        due("an empty tape", x.rules(), 0);
        due("two lines", rules(x, "hold 12;price 13;"), 2);
        due("the tape is empty", x.end(1), false);
        due("a fault", rules(x, "hold 14;price 15;locks 0 25;"), NONE);
        due("the tape is empty", x.end(1), false);
        due("as they were", x.held(0, 0, 0, 0), 12);
        due("as they were", x.price(0, 0, false), 13);
        due("as they were", x.open(0, 1), 24);
        due("the empty text", x.rules(), 0);
        due("none are left", x.held(0, 0, 0, 0), 0);
        due("none are left", x.price(0, 0, false), NOTHING);
    }

    /** Promise 9: "Of the latest rules(): what 0 the FAULT (0 without one), 1 its place (NONE)". */
    private static void latestRules() {
        WeekBoats x = new WeekBoats();
        due("no rules() yet", x.fault(0), 0);
        due("no rules() yet", x.fault(1), NONE);
        rules(x, "hold 1 / 0;");
        due("a part by 0", x.fault(0), 2);
        due("at 9", x.fault(1), 9);
        feed(x, "hold 1;");
        due("only rules() counts", x.fault(0), 2);
        x.rules();
        due("without one", x.fault(0), 0);
        due("without one", x.fault(1), NONE);
        rules(x, "x");
        due("at the first place", x.fault(1), 0);
        x.rules();
        due("the empty text has none", x.fault(0), 0);
        due("the empty text has none", x.fault(1), NONE);
        int[] whats = {-1, 2, LEAST, MOST};
        for (int what : whats) {
            due("another what", x.fault(what), NONE);
        }
    }

    /** Terms 2: "digits as many as stand together NUMBERS of 1 to 4 digits or none". */
    private static void numbersOfFourDigits() {
        good("hold 0;", 1);
        good("hold 9999;", 1);
        good("hold 0000;", 1);
        good("locks 0008 0024;", 1);
        faulty("hold 10000;", 1, 5);
        faulty("hold 00000;", 1, 5);
        faulty("hold 1 / 00000;", 1, 9);
        faulty("hold 1 + 123456789012;", 1, 9);
        faulty("tunnel 00001 up 1 2;", 1, 7);
    }

    /** Terms 2: "an HOUR above 24". */
    private static void hoursUpTo24() {
        good("locks 0 0;", 1);
        good("locks 24 24;", 1);
        good("tunnel 0 up 0 24;tunnel 0 down 24 0;", 2);
        faulty("locks 25 24;", 2, 6);
        faulty("locks 24 25;", 2, 9);
        faulty("tunnel 0 up 25 24;", 2, 12);
        faulty("tunnel 0 up 24 25;", 2, 15);
        faulty("tunnel 0 down 25 24;", 2, 14);
        faulty("tunnel 0 down 24 9999;", 2, 17);
        faulty("locks 25 25;", 2, 6);
    }

    /** Terms 2: "a STRETCH above 14". */
    private static void stretchesUpTo14() {
        good("tunnel 0 up 1 2;", 1);
        good("tunnel 14 down 1 2;", 1);
        faulty("tunnel 15 up 1 2;", 2, 7);
        faulty("tunnel 9999 x", 2, 7);
    }

    /** Terms 2: "a part by 0". */
    private static void partByNothing() {
        good("hold 0 / 1;", 1);
        faulty("hold 0 / 0;", 2, 9);
        faulty("hold 5 / 2 / 0;", 2, 13);
        faulty("hold 5 / 000;", 2, 9);
        faulty("hold 5 when 1 = 1 / 0;", 2, 20);
        good("hold 5 * 0 + 0 - 0;", 1);
    }

    /** Terms 2: "3 (at its KEYWORD) the 17th line". */
    private static void sixteenLines() {
        String[] kinds = {"locks 1 2;", "tunnel 9 up 1 2;", "price 1;", "hold 1;", "harm 1;"};
        good(times("hold 1;", 15) + "locks 1 2;", 16);
        for (String kind : kinds) {
            faulty(times("hold 1;", 16) + "\n" + kind, 3, 113);
        }
        faulty(times("hold 1;", 17) + "x", 3, 112);
        faulty(times("hold 1;", 15) + "hold x;hold 1;", 1, 110);
        faulty(times("hold 1;", 16) + ";", 1, 112);
    }

    /** Terms 2: "(at up, down) a STRETCH that has that"; "each STRETCH once up, once down at most". */
    private static void stretchToldTwice() {
        for (int i = 0; i < 15; i += 14) {
            String up = "tunnel " + i + " up 1 2;";
            String down = "tunnel " + i + " down 1 2;";
            good(up + down, 2);
            good(down + up, 2);
            faulty(up + down + up, 3, up.length() + down.length() + up.indexOf('u', 4));
            faulty(down + up + down, 3, up.length() + down.length() + down.lastIndexOf('d'));
        }
        good("tunnel 13 up 1 2;tunnel 14 up 1 2;tunnel 14 down 1 2;tunnel 13 down 1 2;", 4);
        faulty("tunnel 1 up 1 2;tunnel 1 up 25 2;", 3, 25);
        WeekBoats x = new WeekBoats();
        rules(x, "tunnel 1 up 1 2;");
        due("those of other rules are told no more", rules(x, "tunnel 1 up 1 2;"), 1);
    }

    /** Terms 2: "(at it) the 9th ( or not that is open". */
    private static void eightOpen() {
        String head = "hold 1 when ";
        for (int nots = 0; nots <= 8; nots++) {
            String open = times("not ", nots) + times("(", 8 - nots);
            String close = times(")", 8 - nots) + ";";
            good(head + open + "1=1" + close, 1);
            faulty(head + open + "(1=1)" + close, 3, head.length() + open.length());
            faulty(head + open + "not 1=1" + close, 3, head.length() + open.length());
        }
        good(head + times("(", 8) + "1=1" + times(")", 8) + " and " + times("(", 8) + "1=1" + times(")", 8) + ";", 1);
        faulty(head + "1=1 or " + times("not ", 9) + "1=1;", 3, head.length() + 7 + 32);
        good(head + "not (not 1=1 or not 1=1 and (not (1=1) or not (1=1)));", 1);
    }

    /** Terms 2: "at one place the least". */
    private static void theLeastAtOnePlace() {
        faulty("hold 1 when " + times("(", 8) + "1=(", 1, 12 + 10);
        faulty("hold 1 when " + times("not ", 8) + "1 not", 1, 12 + 34);
        faulty("locks 99999 1;", 1, 6);
        faulty("tunnel 99999 up 1 2;", 1, 7);
        faulty("tunnel 1 up 1 2;tunnel up", 1, 23);
        faulty(times("hold 1;", 15) + "hold 1 locks 1 2;", 1, 112);
    }

    /** Terms 2: "1 what can't stand there (the end: the text's length)". */
    private static void whatCannotStand() {
        String text = "locks 9 17 when not (day < 3 or week = 1) and water > 2 * 3 / 4 + 5 - 6;";
        for (int n = 1; n < text.length(); n++) {
            String cut = text.substring(0, n);
            boolean word = Character.isLetter(text.charAt(n - 1)) && Character.isLetter(text.charAt(n));
            if (!word) {
                faulty(cut, 1, n);
                faulty(cut + " \n", 1, n + 2);
            }
        }
        good(text, 1);
        for (String more : new String[] {";", "x", "1", "when", "(", ")", "day", "="}) {
            faulty(text + more, 1, text.length());
        }
        faulty("price 1 when 1 2;", 1, 15);
        faulty("price 1 when 1 + day;", 1, 20);
        faulty("price 1 when day berths = 1;", 1, 17);
        faulty("tunnel 1 up when 1=1;", 1, 12);
        faulty("tunnel 1 8 20;", 1, 9);
        faulty("harm - 1;", 1, 5);
        faulty("harm 1 / (2);", 1, 9);
        faulty("harm 1 * / 2;", 1, 9);
        faulty("harm not 1 = 1;", 1, 5);
    }

    /** Terms 2: "letters .. as many as stand together"; "Blanks (32, 10) between"; any other byte. */
    private static void tokens() {
        for (int c = 0; c < 256; c++) {
            String text = "hold 1" + (char) c + "+2;";
            boolean blank = c == 32 || c == 10;
            boolean digit = c >= '0' && c <= '9';
            if (blank || digit) {
                good(text, 1);
            } else if ("+-*/;".indexOf(c) >= 0) {
                faulty(text, 1, 7);
            } else {
                faulty(text, 1, 6);
            }
        }
        good("hold1when day=1and week<2or not(water>3);", 1);
        faulty("holdwhen 1;", 1, 0);
        faulty("hold 1 whenday=1;", 1, 7);
        faulty("hold 1 when dayand=1;", 1, 12);
        faulty("hold Day;", 1, 5);
        faulty("hold daY;", 1, 5);
        faulty("hold weeks;", 1, 5);
        faulty("hold wee;", 1, 5);
        faulty("HOLD 1;", 1, 0);
    }

    /** Promise 8: the lines of rules() are those of its own text, however many came before. */
    private static void manyRules() {
        WeekBoats x = new WeekBoats();
        x.boat(4, 10, 0, 0);
        for (int n = 1; n <= 4; n++) {
            due("a long text", rules(x, "hold " + n + times("+1", 240) + ";"), 1);
            due("its value", x.held(0, 0, 0, 0), n + 240);
        }
        due("two tunnels", rules(x, "tunnel 3 up 8 20;tunnel 3 down 8 20;"), 2);
        due("down", x.comes(0, 4, 3, 480), 500);
        due("up alone", rules(x, "tunnel 3 up 8 20;"), 1);
        due("down never", x.comes(0, 4, 3, 480), NONE);
        due("down alone", rules(x, "tunnel 3 down 8 20;"), 1);
        due("up never", x.comes(0, 3, 4, 480), NONE);
        StringBuilder lines = new StringBuilder();
        for (int n = 0; n < 16; n++) {
            lines.append("hold 0+1*").append(n + 70).append(" when depth=").append(n).append(";\n");
        }
        due("sixteen lines", rules(x, lines.toString()), 16);
        for (int n = 0; n < 16; n++) {
            due("line " + n, x.held(0, n, 0, 0), n + 70);
        }
        due("none of them", x.held(0, 16, 0, 0), 0);
        due("the first one", rules(x, "hold 1;hold 2;hold 3;") == 3 ? x.held(0, 0, 0, 0) : NONE, 1);
    }

    /** Terms 2: "Ints, which wrap". */
    private static void intsThatWrap() {
        String big = "4096*4096*128";
        int[] values = {MOST, LEAST, LEAST, MOST, 0, 9999 * 9999 * 9999, LEAST, LEAST / 10, LEAST, 1};
        String[] sums = {big + "-1", big, big + "-1+1", "0-" + big + "-1", big + "*2", "9999*9999*9999", "0-" + big, big + "/10",
            big + "/1", big + "-" + big + "+1"};
        for (int i = 0; i < sums.length; i++) {
            WeekBoats x = new WeekBoats();
            x.boat(4, 10, 0, 0);
            due("rules", rules(x, "hold " + sums[i] + ";price " + sums[i] + ";harm " + sums[i] + ";"), 3);
            due("held " + sums[i], x.held(0, 0, 0, 0), values[i]);
            due("price " + sums[i], x.price(0, 0, false), values[i]);
            x.stretch(0, 0, 1, 1);
            due("harm " + sums[i], x.harm(0, 0, 1, 480), values[i] < 0 ? 0 : Math.min(values[i], 999));
        }
        WeekBoats y = new WeekBoats();
        due("rules", rules(y, "locks 1 2 when " + big + " < 0;"), 1);
        due("a wrapped one is below 0", y.open(0, 0), 1);
    }

    /** Promise 10: "on a DAY (0 .. 13): what 0 from, 1 to (0 and 24 without a line). NONE if one can't be, or another what". */
    private static void openDays() {
        WeekBoats x = new WeekBoats();
        rules(x, "locks 0 24 when day=0 and week=0;locks 24 0 when day=6 and week=1;locks 7 19 when day=6 or day=0;");
        int[][] days = {{0, 0, 24}, {13, 24, 0}, {6, 7, 19}, {7, 7, 19}, {5, 0, 24}, {8, 0, 24}};
        for (int[] d : days) {
            due("from of day " + d[0], x.open(d[0], 0), d[1]);
            due("to of day " + d[0], x.open(d[0], 1), d[2]);
        }
        int[] not = {-1, 14, LEAST, MOST};
        for (int day : not) {
            due("day " + day, x.open(day, 0), NONE);
            due("day " + day, x.open(day, 1), NONE);
        }
        for (int what : new int[] {-1, 2, LEAST, MOST}) {
            due("what " + what, x.open(0, what), NONE);
        }
    }

    /** Terms 2: "of locks .. day .. week and water; of price .. (others 0)": also behind other questions. */
    private static void othersAreNothing() {
        WeekBoats x = new WeekBoats();
        x.boat(12, 99, 0, 60);
        x.stretch(0, 0, 1, 1);
        x.water(7);
        rules(x, "locks 3 4 when berths+away+age+depth+said+taught>0;"
            + "price week*100+day+water+depth+said+taught when berths*away*age>0;"
            + "hold week*100+day+water+berths+away+taught when depth*said*age>0;"
            + "harm 1+away+depth+said when berths*age*taught>0;");
        for (int n = 0; n < 2; n++) {
            due("price", x.price(0, 9, true), 900);
            due("hold", x.held(0, 99, 9, 9), 900);
            due("harm", x.harm(0, 0, 1, 13 * 1440 + 480), 1);
            x.held(0, 99, 9, 9);
            x.price(0, 9, true);
            due("water is told anew", x.water(8 + n), true);
            due("hours", x.open(13, 0), 0);
            due("harm", x.harm(0, 0, 1, 480), 1);
            due("price", x.price(0, 0, true), 0);
        }
    }

    /** Promise 41: "of a WEEK (0 .. 9) .. NONE - 999999 if no line SERVES, or one can't be". */
    private static void priceWeeks() {
        WeekBoats x = new WeekBoats();
        x.boat(4, 10, 0, 0);
        x.boat(5, 10, 0, 0);
        rules(x, "price week + 10 when week < 9 or berths = 5;");
        due("week 0", x.price(0, 0, false), 10);
        due("week 8", x.price(0, 8, false), 18);
        due("week 9 serves boat 1", x.price(1, 9, true), 19);
        due("no line for boat 0", x.price(0, 9, true), NOTHING);
        int[][] bad = {{-1, 0}, {2, 0}, {0, -1}, {0, 10}, {LEAST, 0}, {0, MOST}};
        for (int[] b : bad) {
            due("price " + b[0] + " " + b[1], x.price(b[0], b[1], true), NOTHING);
        }
        rules(x, "price 0 - 9999 * 100 - 100;");
        due("a price may look like none", x.price(0, 0, false), NOTHING);
    }

    /** Promise 42: "a depth (0 .. 99) of which so many said (0 .. 9) in a WEEK; 0 if no line SERVES; NONE - 999999 ..". */
    private static void heldNumbers() {
        WeekBoats x = new WeekBoats();
        x.boat(4, 99, 0, 0);
        rules(x, "hold depth * 1000 + said * 100 + week * 10 when age = 99 and depth + said + week > 0;");
        due("the most", x.held(0, 99, 9, 9), 99990);
        due("the least: no line serves", x.held(0, 0, 0, 0), 0);
        due("depth", x.held(0, 1, 0, 0), 1000);
        due("said", x.held(0, 0, 1, 0), 100);
        due("week", x.held(0, 0, 0, 1), 10);
        int[][] bad = {{-1, 1, 1, 1}, {1, 1, 1, 1}, {0, -1, 1, 1}, {0, 100, 1, 1}, {0, 1, -1, 1}, {0, 1, 10, 1}, {0, 1, 1, -1},
            {0, 1, 1, 10}, {LEAST, 1, 1, 1}, {0, MOST, 1, 1}, {0, 1, LEAST, 1}, {0, 1, 1, MOST}};
        for (int[] b : bad) {
            due("held " + b[0] + " " + b[1] + " " + b[2] + " " + b[3], x.held(b[0], b[1], b[2], b[3]), NOTHING);
        }
    }

    /** Promise 43: "What 0 BOATS, .. 7 CALLS. NONE for another what". */
    private static void look() {
        WeekBoats x = new WeekBoats();
        for (int n = 0; n < 30; n++) {
            x.boat(4, 10, 0, 60);
            x.trip(0, 0, 0, 0, 0);
            x.booking(0, 0, 0, 2);
            x.job(1);
            x.queue(0, 0);
            x.stoppage(0, 0, 0);
            x.call(0, 0, 1);
        }
        int[] full = {10, 20, 8, 8, 7, 8, 500, 12};
        for (int what = 0; what < 8; what++) {
            due("full " + what, x.look(what), full[what]);
        }
        for (int what : new int[] {-1, 8, LEAST, MOST}) {
            due("look " + what, x.look(what), NONE);
        }
    }
}
