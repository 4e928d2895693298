/** Promises 1 to 10 and 41 to 43: what is told, the tape, the rules and what they say. */
public final class PromisesRules {
    private static int wrong = 0;

    private static void due(String what, long got, long want) {
        if (got != want) {
            wrong++;
            System.out.println(what + " answered " + got + ", due is " + want);
        }
    }

    private static void due(String what, boolean got, boolean want) {
        due(what, got ? 1 : 0, want ? 1 : 0);
    }

    public static void main(String[] args) {
        promise1();
        promise2();
        promise3();
        promise4();
        promise5();
        promise6and7();
        promise8();
        promise9WhatCannotStand();
        promise9Numbers();
        promise9Repeated();
        promise9Open();
        promise10();
        conditions();
        sums();
        promise41();
        promise42();
        promise43();
        System.out.println(wrong == 0 ? "all answers are as due" : wrong + " answers are not as due");
        if (wrong != 0) {
            System.exit(1);
        }
    }

    private static void feed(WeekBoats x, String text) {
        for (int i = 0; i < text.length(); i += 20) {
            int[] n = new int[5];
            for (int k = 0; k < 20; k++) {
                int c = i + k < text.length() ? text.charAt(i + k) : ' ';
                n[k / 4] = n[k / 4] << 8 | c;
            }
            x.feed(n[0], n[1], n[2], n[3], n[4]);
        }
        due("end of " + text, x.end(text.length()), true);
    }

    private static int rules(WeekBoats x, String text) {
        feed(x, text);
        return x.rules();
    }

    /** The text is wrong, and what ruled before it still does. */
    private static void faulty(String text, int fault, int place) {
        WeekBoats x = new WeekBoats();
        due("good rules", rules(x, "locks 11 13;"), 1);
        due("rules of " + text, rules(x, text), WeekBoats.NONE);
        due("fault of " + text, x.fault(0), fault);
        due("place in " + text, x.fault(1), place);
        due("hours kept at " + text, x.open(3, 0), 11);
        due("tape empty behind " + text, x.end(1), false);
    }

    private static void good(String text, int lines) {
        WeekBoats x = new WeekBoats();
        due("rules of " + text, rules(x, text), lines);
        due("no fault in " + text, x.fault(0), 0);
        due("no place in " + text, x.fault(1), WeekBoats.NONE);
    }

    private static String times(String s, int n) {
        StringBuilder all = new StringBuilder();
        for (int i = 0; i < n; i++) {
            all.append(s);
        }
        return all.toString();
    }

    private static void promise1() {
        WeekBoats x = new WeekBoats();
        int[] first = {0, 0, 0, 0, 0, 0, 500, 0};
        for (int what = 0; what < first.length; what++) {
            due("new look(" + what + ")", x.look(what), first[what]);
        }
        due("NONE", WeekBoats.NONE, -1);
        due("no boat", x.comes(0, 0, 1, 480), -1);
        due("no fault", x.fault(0), 0);
        due("no place", x.fault(1), -1);
        due("open from", x.open(13, 0), 0);
        due("open to", x.open(13, 1), 24);
        due("the tape is empty", x.rules(), 0);
        x.boat(2, 0, 0, 0);
        due("1 mile, no lock at first", x.comes(0, 0, 15, 480), 480 + 15 * 20);
        due("5 minutes of the van at first", x.weight(15, 1) ? x.van(100) : -1, 75);
    }

    private static void promise2() {
        WeekBoats x = new WeekBoats();
        x.boat(2, 0, 0, 60);
        due("ordinary", x.stretch(0, 2, 1, 10), true);
        due("takes as long", x.comes(0, 0, 1, 480), 480 + 40 + 15);
        due("nothing to pass", x.stretch(14, 0, 0, 1), true);
        due("at once", x.comes(0, 14, 15, 480), 480);
        due("the most", x.stretch(14, 9, 9, 99), true);
        due("9 miles and 9 locks", x.comes(0, 14, 15, 480), 480 + 180 + 135);
        int[][] bad = {{-1, 1, 1, 1}, {15, 1, 1, 1}, {0, -1, 1, 1}, {0, 10, 1, 1}, {0, 1, -1, 1},
            {0, 1, 10, 1}, {0, 1, 1, 0}, {0, 1, 1, 100}, {Integer.MIN_VALUE, 1, 1, 1}, {Integer.MAX_VALUE, 1, 1, 1}};
        for (int[] b : bad) {
            due("stretch " + b[0] + " " + b[1] + " " + b[2] + " " + b[3], x.stretch(b[0], b[1], b[2], b[3]), false);
        }
        due("nothing is done", x.comes(0, 0, 1, 480), 480 + 40 + 15);
        x.weight(1, 1);
        due("the road neither", x.van(100), 10);
    }

    private static void promise3() {
        WeekBoats x = new WeekBoats();
        due("least", x.water(0), true);
        due("is 0", x.look(6), 0);
        due("most", x.water(999), true);
        due("below 0", x.water(-1), false);
        due("above 999", x.water(1000), false);
        due("stays", x.look(6), 999);
    }

    private static void promise4() {
        WeekBoats x = new WeekBoats();
        x.boat(2, 0, 0, 60);
        due("from behind to", x.stoppage(0, 1, 0), -1);
        due("no stretch", x.stoppage(15, 0, 0), -1);
        due("no stretch", x.stoppage(-2, 0, 0), -1);
        due("no day", x.stoppage(0, -1, 0), -1);
        due("no day", x.stoppage(0, 0, 14), -1);
        due("none yet", x.look(5), 0);
        for (int n = 1; n <= 8; n++) {
            due("stoppage " + n, x.stoppage(n == 7 ? 14 : 0, 0, n == 8 ? 13 : 0), n);
        }
        due("the last stretch", x.comes(0, 15, 14, 480), 1940);
        due("there are eight", x.stoppage(0, 0, 0), -1);
        due("still eight", x.look(5), 8);
        due("never", x.comes(0, 0, 1, 480), -1);
        due("the next stretch is free", x.comes(0, 1, 2, 480), 500);
        due("none any more", x.stoppage(-1, 99, -99), 0);
        due("none", x.look(5), 0);
        due("free again", x.comes(0, 0, 1, 480), 500);
    }

    private static void promise5() {
        WeekBoats x = new WeekBoats();
        int[][] bad = {{1, 0, 0, 0}, {13, 0, 0, 0}, {2, -1, 0, 0}, {2, 100, 0, 0}, {2, 0, -1, 0}, {2, 0, 16, 0},
            {2, 0, 0, -1}, {2, 0, 0, 61}};
        for (int[] b : bad) {
            due("boat " + b[0] + " " + b[1] + " " + b[2] + " " + b[3], x.boat(b[0], b[1], b[2], b[3]), -1);
        }
        for (int n = 0; n < 10; n++) {
            due("boat " + n, n % 2 == 0 ? x.boat(2, 0, 0, 0) : x.boat(12, 99, 15, 60), n);
        }
        due("there are ten", x.boat(2, 0, 0, 0), -1);
        due("ten", x.look(0), 10);
    }

    private static void promise6and7() {
        WeekBoats x = new WeekBoats();
        for (int n = 20; n <= 500; n += 20) {
            due("feed to " + n, x.feed(0x3b3b3b3b, 0, 0, 0, 0), n);
        }
        due("above 500", x.feed(0, 0, 0, 0, 0), -1);
        due("more than it has", x.end(501), false);
        due("below 0", x.end(-1), false);
        due("all of it", x.end(500), true);
        due("one less", x.end(499), true);
        due("one less: still no place for 20", x.feed(0, 0, 0, 0, 0), -1);
        due("not so many now", x.end(500), false);
        due("place for 20", x.end(480), true);
        due("to 500 again", x.feed(0, 0, 0, 0, 0), 500);
        due("nothing", x.end(0), true);
        due("is no rule", x.rules(), 0);
        // "hold 258;" with the highest byte first, then bytes above 127 in what is cut off
        due("highest first", x.feed(0x686f6c64, 0x20323538, 0x3bffffff, -1, -1), 20);
        x.end(9);
        due("one line", x.rules(), 1);
        x.boat(2, 0, 0, 0);
        due("its value", x.held(0, 0, 0, 0), 258);
        due("a byte above 127", x.feed(0xe9000000, 0, 0, 0, 0), 20);
        x.end(1);
        due("cannot stand", x.rules(), -1);
        due("at its place", x.fault(1), 0);
        feed(x, "hold ");
        due("comes behind the tape", x.feed(0x373b2020, 0x20202020, 0x20202020, 0x20202020, 0x20202020), 25);
        due("both", x.rules(), 1);
        due("7", x.held(0, 0, 0, 0), 7);
    }

    private static void promise8() {
        good("", 0);
        good(" \n ", 0);
        good("locks 9 17;", 1);
        good("locks9 17;price 1;", 2);
        good("\nlocks 0 24\n;", 1);
        good("tunnel 0 up 8 20;tunnel 14 down 0 24;tunnel 0 down 1 2;", 3);
        good("price 1 when day=1;hold depth*said when age>3 or not said<2;harm taught;", 3);
        good(times("hold 1;", 16), 16);
        good("price 9999;", 1);
        good("price 0001;", 1);
        good("hold 1" + times("+1", 246) + ";", 1);
        good(times("\n", 493) + "hold 1;", 1);
        WeekBoats x = new WeekBoats();
        x.boat(2, 0, 0, 0);
        rules(x, "price 5;hold 6;");
        due("price", x.price(0, 0, false), 5);
        due("new rules", rules(x, "price 7;"), 1);
        due("price", x.price(0, 0, false), 7);
        due("the old ones are gone", x.held(0, 1, 1, 1), 0);
        due("the tape is empty then", x.end(1), false);
        due("empty rules", x.rules(), 0);
        due("no price", x.price(0, 0, false), -1000000);
        rules(x, "tunnel 0 up 8 9;");
        due("the other way never", x.comes(0, 1, 0, 480), -1);
        rules(x, "");
        due("no tunnel any more", x.comes(0, 1, 0, 480), 500);
    }

    private static void promise9WhatCannotStand() {
        faulty("x", 1, 0);
        faulty("lock 9 17;", 1, 0);
        faulty("lockss 9 17;", 1, 0);
        faulty("Locks 9 17;", 1, 0);
        faulty("locksX 9 17;", 1, 0);
        faulty(";", 1, 0);
        faulty("9;", 1, 0);
        faulty("up;", 1, 0);
        faulty("locks 9 17", 1, 10);
        faulty("locks 9 17  ", 1, 12);
        faulty("locks 9 ;", 1, 8);
        faulty("locks 9 17 5;", 1, 11);
        faulty("locks day 17;", 1, 6);
        faulty("locks 99999 17;", 1, 6);
        faulty("locks 9 17 when;", 1, 15);
        faulty("locks 9 17 when 1;", 1, 17);
        faulty("locks 9 17 when 1=1=1;", 1, 19);
        faulty("locks 9 17 when day = 1 and;", 1, 27);
        faulty("locks 9 17 when (day = 1;", 1, 24);
        faulty("locks 9 17 when day = 1);", 1, 23);
        faulty("locks 9 17 when (day) = 1;", 1, 20);
        faulty("locks 9 17 when not;", 1, 19);
        faulty("locks 9 17 when 1 = 1 not 1 = 1;", 1, 22);
        faulty("locks 9 17 when 1 = 1 when 1 = 1;", 1, 22);
        faulty("tunnel 3 8 9;", 1, 9);
        faulty("tunnel up 8 9;", 1, 7);
        faulty("tunnel 3;", 1, 8);
        faulty("tunnel;", 1, 6);
        faulty("tunnel 3 up 8 9 when 1 = 1;", 1, 16);
        faulty("price;", 1, 5);
        faulty("price -1;", 1, 6);
        faulty("price (1);", 1, 6);
        faulty("price 1 +;", 1, 9);
        faulty("price 1 */ 2;", 1, 9);
        faulty("price 1 / day;", 1, 10);
        faulty("price 1 /;", 1, 9);
        faulty("price 1 *;", 1, 9);
        faulty("price 1 when 1 = 1 or;", 1, 21);
        faulty("price 1 when 1;2;", 1, 14);
        faulty("price 1 when ();", 1, 14);
        faulty("price 1 2;", 1, 8);
        faulty("price 12345;", 1, 6);
        faulty("price 00001;", 1, 6);
        faulty("price up;", 1, 6);
        faulty("price 1 > 2;", 1, 8);
        faulty("price 1.5;", 1, 7);
        faulty("price 1\t;", 1, 7);
        faulty("price 1\r;", 1, 7);
        faulty("price 1\0;", 1, 7);
        faulty("price " + (char) 233 + ";", 1, 6);
        faulty("price 1, 2;", 1, 7);
        faulty("hold 1;harm", 1, 11);
        faulty("hold 1;;", 1, 7);
        // the first fault by its place
        faulty("price 1 / 0 x", 2, 10);
        faulty("price x / 0;", 1, 6);
    }

    private static void promise9Numbers() {
        faulty("locks 25 17;", 2, 6);
        faulty("locks 0 25;", 2, 8);
        faulty("locks 25 x;", 2, 6);
        faulty("tunnel 15 up 1 2;", 2, 7);
        faulty("tunnel 3 up 25 2;", 2, 12);
        faulty("tunnel 3 down 2 25;", 2, 16);
        faulty("price 1 / 0;", 2, 10);
        faulty("price 1 /0000;", 2, 9);
        faulty("price 1 when 7 > 6/0;", 2, 19);
        faulty("locks 9999 17;", 2, 6);
        good("locks 24 24;", 1);
        good("tunnel 14 up 24 24;", 1);
        good("price 1 / 1;", 1);
    }

    private static void promise9Repeated() {
        faulty("tunnel 3 up 8 9;tunnel 3 up 8 9;", 3, 25);
        faulty("tunnel 3 down 8 9;tunnel 03 down 8 9;", 3, 28);
        good("tunnel 3 up 8 9;tunnel 3 down 8 9;tunnel 4 up 8 9;", 3);
        faulty(times("hold 1;", 16) + " locks 9 17;", 3, 16 * 7 + 1);
        faulty(times("hold 1;", 16) + "x", 1, 16 * 7);
        faulty(times("hold 1;", 16) + "hold x;", 3, 16 * 7);
    }

    private static void promise9Open() {
        String head = "price 1 when ";
        good(head + times("(", 8) + "1=1" + times(")", 8) + ";", 1);
        good(head + times("not ", 8) + "1=1;", 1);
        good(head + times("not(", 4) + "1=1" + times(")", 4) + ";", 1);
        faulty(head + times("(", 9) + "1=1" + times(")", 9) + ";", 3, 13 + 8);
        faulty(head + times("not ", 9) + "1=1;", 3, 13 + 32);
        faulty(head + times("not(", 4) + "(1=1" + times(")", 5) + ";", 3, 13 + 16);
        faulty(head + times("(", 8) + "not 1=1" + times(")", 8) + ";", 3, 13 + 8);
        // those that are closed do not count: a not is open only as long as what it denies
        good(head + times("(1=1) and ", 12) + "1=1;", 1);
        good(head + times("not 1=1 or ", 12) + "1=1;", 1);
        good(head + times("(", 7) + "not 1=1 and not 1=1" + times(")", 7) + ";", 1);
        good(head + times("not ", 7) + "(1=1) and " + times("not ", 8) + "1=1;", 1);
    }

    private static void promise10() {
        WeekBoats x = new WeekBoats();
        rules(x, "locks 10 12 when water < 100;locks 9 17 when day = 6 and week = 1;locks 20 5 when day=0;hold 3;");
        due("no line", x.open(1, 0), 0);
        due("no line", x.open(1, 1), 24);
        due("day 13 is 6 of week 1", x.open(13, 0), 9);
        due("day 6 is of week 0", x.open(6, 1), 24);
        due("upside down", x.open(7, 0), 20);
        due("upside down", x.open(7, 1), 5);
        x.water(99);
        due("the first that serves", x.open(13, 0), 10);
        due("the first that serves", x.open(0, 1), 12);
        x.water(100);
        due("as before", x.open(0, 1), 5);
        due("day", x.open(-1, 0), -1);
        due("day", x.open(14, 0), -1);
        due("what", x.open(0, 2), -1);
        due("what", x.open(0, -1), -1);
        rules(x, "locks 1 2 when berths + away + age + depth + said + taught = 0;");
        due("other names are 0", x.open(5, 1), 2);
    }

    /** Whether a condition is so, with a price asked of a boat of 4 berths, age 10, in week 3, away. */
    private static void so(String condition, boolean want) {
        WeekBoats x = new WeekBoats();
        x.boat(4, 10, 5, 30);
        due("rules with " + condition, rules(x, "price 1 when " + condition + ";price 0;"), 2);
        due(condition, x.price(0, 3, true), want ? 1 : 0);
    }

    private static void conditions() {
        so("1 = 1", true);
        so("1 < 1", false);
        so("1 > 1", false);
        so("1 < 2", true);
        so("2 > 1", true);
        so("not 1 = 1", false);
        so("not not 1 = 1", true);
        so("1 = 1 or 1 = 2 and 1 = 2", true);
        so("1 = 2 and 1 = 1 or 1 = 1", true);
        so("(1 = 1 or 1 = 2) and 1 = 2", false);
        so("not 1 = 2 and 1 = 2", false);
        so("not (1 = 2 and 1 = 2)", true);
        so("not 1 = 1 or 1 = 1", true);
        so("not (1 = 1 or 1 = 1)", false);
        so("week = 3 and berths = 4 and away = 1 and age = 10", true);
        so("day + water + depth + said + taught = 0", true);
        so("1 + 1 * 3 = 4", true);
        so("9 - 3 - 2 = 4", true);
        so("9 / 2 * 2 = 8", true);
        so("9 * 2 / 4 = 4", true);
        so("0 - 7 / 2 = 0 - 3", true);
    }

    private static void value(String sum, int want) {
        WeekBoats x = new WeekBoats();
        x.boat(4, 10, 5, 30);
        due("rules with " + sum, rules(x, "hold " + sum + ";"), 1);
        due(sum, x.held(0, 7, 3, 2), want);
    }

    private static void sums() {
        value("depth * said", 21);
        value("depth - said - week", 2);
        value("depth - said * week", 1);
        value("0 - depth", -7);
        value("depth / 2", 3);
        value("0 - depth / 2", -3);
        value("said - depth * 1 / 3", 1);
        value("0 * 1 - 7", -7);
        value("9999 * 9999 * 9999 * 9999", 9999 * 9999 * 9999 * 9999);
        value("9999 * 9999 * 99 / 7", 9999 * 9999 * 99 / 7);
        value("1" + times("+1", 240), 241);
        value("age * 1000 + day + water + berths + away + taught", 10000);
    }

    private static void promise41() {
        WeekBoats x = new WeekBoats();
        due("no boat", x.price(0, 0, false), -1000000);
        x.boat(4, 10, 0, 60);
        due("no line", x.price(0, 0, false), -1000000);
        rules(x, "price 400 + 100 * berths - 10 * age when week > 2 and week < 9;price 333 * away when away = 1;");
        due("serves", x.price(0, 3, false), 700);
        due("the first one", x.price(0, 8, true), 700);
        due("the second one", x.price(0, 9, true), 333);
        due("none serves", x.price(0, 9, false), -1000000);
        due("week", x.price(0, 10, true), -1000000);
        due("week", x.price(0, -1, true), -1000000);
        due("boat", x.price(1, 3, true), -1000000);
        due("boat", x.price(-1, 3, true), -1000000);
    }

    private static void promise42() {
        WeekBoats x = new WeekBoats();
        x.boat(4, 10, 0, 60);
        due("no line", x.held(0, 0, 0, 0), 0);
        rules(x, "hold depth * 10 - said when said < 9 and week < 9;hold age when depth = 99;");
        due("serves", x.held(0, 12, 3, 8), 117);
        due("below 0", x.held(0, 0, 8, 0), -8);
        due("the second one", x.held(0, 99, 9, 9), 10);
        due("none serves", x.held(0, 98, 9, 9), 0);
        int[][] bad = {{-1, 0, 0, 0}, {1, 0, 0, 0}, {0, -1, 0, 0}, {0, 100, 0, 0}, {0, 0, -1, 0}, {0, 0, 10, 0},
            {0, 0, 0, -1}, {0, 0, 0, 10}};
        for (int[] b : bad) {
            due("held " + b[0] + " " + b[1] + " " + b[2] + " " + b[3], x.held(b[0], b[1], b[2], b[3]), -1000000);
        }
    }

    private static void promise43() {
        WeekBoats x = new WeekBoats();
        x.boat(4, 10, 0, 60);
        for (int n = 0; n < 2; n++) {
            x.trip(0, 0, 1, 480, 500);
        }
        for (int n = 0; n < 3; n++) {
            x.booking(0, 1, 0, 2);
        }
        for (int n = 0; n < 4; n++) {
            x.job(10);
        }
        for (int n = 0; n < 5; n++) {
            x.queue(n, 1);
        }
        for (int n = 0; n < 6; n++) {
            x.stoppage(0, 0, 0);
        }
        x.water(7);
        for (int n = 0; n < 8; n++) {
            x.call(n, 0, 1);
        }
        for (int what = 0; what < 8; what++) {
            due("look(" + what + ")", x.look(what), what + 1);
        }
        due("look(-1)", x.look(-1), -1);
        due("look(8)", x.look(8), -1);
    }
}
