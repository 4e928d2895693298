/** Promises 11 to 24: ways, trips, pumps and logs. */
public final class PromisesWays {
    private static final int NEVER = -1000000;
    private static int wrong = 0;

    private static void due(String what, long got, long want) {
        if (got != want) {
            wrong++;
            System.out.println(what + " answered " + got + ", due is " + want);
        }
    }

    private static void due(String what, boolean got, boolean want) {
        due(what, got ? 1 : 0, want ? 1 : 0);
    }

    public static void main(String[] args) {
        promise11Ordinary();
        promise11Hours();
        promise11Tunnels();
        promise11Wrong();
        promise12();
        promise13();
        promise14Turning();
        promise14Refund();
        promise15();
        promise16and17();
        promise18();
        promise19();
        promise20();
        promise21();
        promise22();
        promise23();
        promise24();
        System.out.println(wrong == 0 ? "all answers are as due" : wrong + " answers are not as due");
        if (wrong != 0) {
            System.exit(1);
        }
    }

    private static void rules(WeekBoats x, String text) {
        for (int i = 0; i < text.length(); i += 20) {
            int[] n = new int[5];
            for (int k = 0; k < 20; k++) {
                n[k / 4] = n[k / 4] << 8 | (i + k < text.length() ? text.charAt(i + k) : ' ');
            }
            x.feed(n[0], n[1], n[2], n[3], n[4]);
        }
        due("no fault in " + text, x.rules() == WeekBoats.NONE, false);
    }

    private static int at(int day, int hour, int minute) {
        return day * 1440 + hour * 60 + minute;
    }

    private static void promise11Ordinary() {
        WeekBoats x = new WeekBoats();
        x.boat(2, 0, 0, 60);
        x.boat(2, 0, 0, 0);
        x.boat(2, 0, 0, 55);
        x.boat(2, 0, 0, 54);
        x.stretch(0, 2, 1, 5);
        x.stretch(1, 0, 3, 5);
        x.stretch(2, 0, 0, 5);
        due("miles, then a lock", x.comes(0, 0, 1, at(0, 8, 0)), at(0, 8, 55));
        due("not taught", x.comes(1, 0, 1, at(0, 8, 0)), at(0, 9, 5));
        due("5 by 6 is 0", x.comes(2, 0, 1, at(0, 8, 0)), at(0, 8, 55));
        due("6 by 6 is 1", x.comes(3, 0, 1, at(0, 8, 0)), at(0, 8, 56));
        due("locks one by one", x.comes(0, 0, 2, at(0, 8, 0)), at(0, 9, 40));
        due("nothing to pass", x.comes(0, 2, 3, at(0, 3, 7)), at(0, 3, 7));
        due("where it is", x.comes(0, 5, 5, at(0, 3, 7)), at(0, 3, 7));
        due("back", x.comes(0, 2, 0, at(0, 8, 0)), at(0, 9, 40));
        due("miles first on the way back, too", x.comes(0, 1, 0, at(0, 19, 50)), at(1, 8, 35));
    }

    private static void promise11Hours() {
        WeekBoats x = new WeekBoats();
        x.boat(2, 0, 0, 60);
        x.stretch(0, 1, 1, 5);
        due("begins at 8", x.comes(0, 0, 1, 0), at(0, 8, 35));
        due("begins at 8", x.comes(0, 0, 1, at(0, 7, 59)), at(0, 8, 35));
        due("begins at 19:59", x.comes(0, 1, 2, at(0, 19, 59)), at(0, 20, 19));
        due("not at 20:00", x.comes(0, 1, 2, at(0, 20, 0)), at(1, 8, 20));
        due("a step each evening", x.comes(0, 0, 1, at(0, 19, 59)), at(1, 8, 15));
        due("the last evening", x.comes(0, 1, 2, at(13, 19, 59)), at(13, 20, 19));
        due("behind it", x.comes(0, 1, 2, at(13, 20, 0)), -1);
        due("not on the last evening", x.comes(0, 0, 1, at(13, 19, 59)), -1);
        x.stretch(14, 9, 9, 5);
        rules(x, "locks 9 10 when day = 0;locks 0 24 when day < 5;tunnel 14 up 0 24;");
        due("locks open at 9", x.comes(0, 0, 1, at(0, 8, 0)), at(0, 9, 15));
        due("and shut at 10", x.comes(0, 0, 1, at(0, 9, 39)), at(0, 10, 14));
        due("and shut at 10", x.comes(0, 0, 1, at(0, 9, 40)), at(1, 8, 15));
        due("hours of 8 to 19 stay", x.comes(0, 0, 1, at(1, 0, 0)), at(1, 8, 35));
        due("any without a line", x.comes(0, 0, 1, at(5, 8, 0)), at(5, 8, 35));
        due("of week 1, too", x.comes(0, 0, 1, at(7, 8, 0)), at(7, 9, 15));
        x.stoppage(0, 2, 3);
        due("ahead of it", x.comes(0, 0, 1, at(1, 19, 0)), at(1, 19, 35));
        due("a lock on that day neither", x.comes(0, 0, 1, at(1, 19, 45)), at(4, 8, 15));
        due("no mile on that day", x.comes(0, 0, 1, at(2, 12, 0)), at(4, 8, 35));
        due("another stretch", x.comes(0, 1, 2, at(2, 12, 0)), at(2, 12, 20));
        x.stoppage(0, 4, 13);
        due("never", x.comes(0, 0, 1, at(2, 0, 0)), -1);
        due("one long step", x.comes(0, 14, 15, at(12, 19, 59)), at(13, 10, 15));
        x.stretch(13, 9, 0, 5);
        rules(x, "tunnel 13 down 0 24;");
        due("the end of a step is free", x.comes(0, 14, 13, at(13, 19, 59)), at(13, 22, 59));
    }

    private static void promise11Tunnels() {
        WeekBoats x = new WeekBoats();
        x.boat(2, 0, 0, 60);
        x.stretch(3, 3, 1, 5);
        x.stretch(5, 0, 1, 5);
        rules(x, "tunnel 3 up 10 11;tunnel 3 down 18 24;tunnel 4 down 9 12;tunnel 5 up 3 3;");
        due("one step", x.comes(0, 3, 4, at(0, 8, 0)), at(0, 11, 15));
        due("may begin at 10:59", x.comes(0, 3, 4, at(0, 10, 59)), at(0, 12, 14));
        due("not at 11:00", x.comes(0, 3, 4, at(0, 11, 0)), at(1, 11, 15));
        due("down by its own hours", x.comes(0, 4, 3, at(0, 8, 0)), at(0, 19, 15));
        due("down up to 19:59", x.comes(0, 4, 3, at(0, 19, 59)), at(1, 8, 15));
        due("down not at 20:00", x.comes(0, 4, 3, at(0, 20, 0)), at(1, 19, 15));
        due("never the other way", x.comes(0, 4, 5, at(0, 8, 0)), -1);
        due("the way that is told", x.comes(0, 5, 4, at(0, 8, 0)), at(0, 9, 20));
        due("without miles no step", x.comes(0, 5, 6, at(0, 8, 0)), at(0, 8, 15));
        due("nor the other way", x.comes(0, 6, 5, at(0, 8, 0)), at(0, 8, 15));
        x.stretch(3, 9, 0, 5);
        due("180 minutes", x.comes(0, 3, 4, at(0, 10, 0)), at(0, 13, 0));
        x.stretch(5, 1, 1, 5);
        due("hours that never are", x.comes(0, 5, 6, at(0, 8, 0)), -1);
    }

    private static void promise11Wrong() {
        WeekBoats x = new WeekBoats();
        x.boat(2, 0, 0, 60);
        int[][] bad = {{-1, 0, 1, 480}, {1, 0, 1, 480}, {0, -1, 1, 480}, {0, 16, 1, 480}, {0, 0, -1, 480},
            {0, 0, 16, 480}, {0, 0, 1, -1}, {0, 0, 1, 20160}, {0, 16, 16, 480}, {0, Integer.MIN_VALUE, 1, 480}};
        for (int[] b : bad) {
            due("comes " + b[0] + " " + b[1] + " " + b[2] + " " + b[3], x.comes(b[0], b[1], b[2], b[3]), -1);
            due("harm " + b[0] + " " + b[1] + " " + b[2] + " " + b[3], x.harm(b[0], b[1], b[2], b[3]), -1);
            due("enough " + b[0] + " " + b[1] + " " + b[2] + " " + b[3], x.enough(b[0], b[1], b[2], b[3], 20159), -1);
            due("trip " + b[0] + " " + b[1] + " " + b[2] + " " + b[3], x.trip(b[0], b[1], b[2], b[3], 20159), -1);
        }
        due("the last minute", x.comes(0, 0, 0, 20159), 20159);
        due("no trip", x.look(1), 0);
    }

    private static void promise12() {
        WeekBoats x = new WeekBoats();
        x.boat(2, 0, 0, 60);
        x.stretch(7, 2, 0, 5);
        due("where it is", x.maybe(0, 7, 480, 480), 1 << 7);
        due("just not", x.maybe(0, 7, 480, 499), 1 << 7);
        due("both ways", x.maybe(0, 7, 480, 520), 1 << 5 | 1 << 6 | 1 << 7 | 1 << 8);
        due("everywhere", x.maybe(0, 7, 480, 20159), 65535);
        due("at night", x.maybe(0, 7, 1200, 1900), 1 << 7);
        x.stretch(3, 0, 0, 5);
        due("at once", x.maybe(0, 3, 100, 100), 1 << 3 | 1 << 4);
        x.stoppage(6, 0, 0);
        due("one way", x.maybe(0, 7, 480, 520), 1 << 7 | 1 << 8);
        due("behind", x.maybe(0, 7, 480, 479), -1);
        due("boat", x.maybe(1, 7, 480, 480), -1);
        due("point", x.maybe(0, 16, 480, 480), -1);
        due("since", x.maybe(0, 7, -1, 480), -1);
        due("time", x.maybe(0, 7, 480, 20160), -1);
    }

    private static void promise13() {
        WeekBoats x = new WeekBoats();
        x.boat(4, 10, 0, 60);
        x.boat(6, 20, 0, 30);
        x.stretch(0, 1, 3, 5);
        due("no line", x.harm(0, 0, 1, 480), 0);
        rules(x, "locks 8 9;harm 1000 * (0 - 1) when 1 = 2;".replace("(0 - 1)", "1")
            + "harm day + 10 * week + berths + age + taught + water when water < 999 and day < 3;harm 0 - 5 when day = 3;harm 1000 when day = 4;");
        x.water(0);
        // begins at 8:20, 8:35, 8:50 of day 0
        due("three locks of day 0", x.harm(0, 0, 1, 480), 3 * (4 + 10 + 60));
        due("another boat: one on the next day", x.harm(1, 0, 1, 480), 2 * (6 + 20 + 30) + 57);
        due("two on the next day", x.harm(0, 0, 1, 500), 2 * 74 + 75);
        due("in week 1", x.harm(0, 0, 1, 7 * 1440 + 480), 3 * 84);
        due("cut to 0", x.harm(0, 0, 1, 3 * 1440 + 480), 0);
        due("cut to 999", x.harm(0, 0, 1, 4 * 1440 + 480), 3 * 999);
        due("no line serves", x.harm(0, 0, 1, 5 * 1440 + 480), 0);
        x.water(5);
        due("water", x.harm(0, 0, 1, 480), 3 * 79);
        due("no lock", x.harm(0, 1, 5, 480), 0);
        due("where it is", x.harm(0, 1, 1, 480), 0);
        x.stoppage(0, 0, 13);
        due("does not come", x.harm(0, 0, 1, 480), -1);
        rules(x, "harm 7 when depth + said + away = 0;");
        due("other names are 0", x.harm(0, 1, 2, 480), 0);
        x.stoppage(-1, 0, 0);
        due("other names are 0", x.harm(0, 0, 1, 480), 21);
    }

    private static void promise14Turning() {
        WeekBoats x = new WeekBoats();
        x.boat(4, 10, 0, 60);
        due("trip", x.trip(0, 5, 8, 480, 600), 0);
        due("60 minutes there, 60 back", x.back(0, 0), 8);
        x.trip(0, 5, 9, 480, 600);
        due("one short of the end", x.back(1, 0), 8);
        x.trip(0, 5, 1, 480, 599);
        due("down", x.back(2, 0), 3);
        x.trip(0, 5, 1, 480, 519);
        due("it turns at once", x.back(3, 0), 5);
        x.trip(0, 5, 5, 480, 480);
        due("no way at all", x.back(4, 0), 5);
        x.trip(0, 5, 6, 480, 479);
        due("late where it begins", x.back(5, 0), NEVER);
        x.trip(0, 5, 5, 480, 479);
        due("late where it is", x.back(6, 0), NEVER);
        x.stoppage(6, 0, 0);
        due("not beyond a stoppage", x.back(0, 0), 6);
        rules(x, "tunnel 5 up 8 9;");
        due("no way back", x.back(0, 0), 5);
        WeekBoats y = new WeekBoats();
        y.boat(4, 10, 0, 60);
        y.trip(0, 5, 7, 480, 1979);
        y.stoppage(6, 0, 0);
        due("a stoppage on the way there: 7 at 1940, back at 1980", y.back(0, 0), 6);
        y.stoppage(-1, 0, 0);
        y.trip(0, 5, 6, 1190, 2000);
        due("back at 1940", y.back(1, 0), 6);
        y.stoppage(5, 1, 1);
        due("a stoppage on the way back", y.back(1, 0), 5);
        due("k", x.back(-1, 0), NEVER);
        due("k", x.back(7, 0), NEVER);
        due("what", x.back(0, 2), NEVER);
        due("what", x.back(0, -1), NEVER);
    }

    private static void promise14Refund() {
        WeekBoats x = new WeekBoats();
        x.boat(4, 10, 0, 60);
        x.trip(0, 0, 1, 480, 500);
        x.trip(0, 0, 1, 480, 499);
        due("not late, no line", x.back(0, 1), 0);
        due("late, no line", x.back(1, 1), NEVER);
        rules(x, "price 701 + 70 * week + away when age < 99;");
        due("not late", x.back(0, 1), 0);
        due("a day begun", x.back(1, 1), 702 / 7);
        x.stoppage(0, 0, 0);
        due("1440: one day", x.late(0) == 1440 ? x.back(0, 1) : -5, 702 / 7);
        due("1441: two days", x.late(1) == 1441 ? x.back(1, 1) : -5, 702 * 2 / 7);
        x.stoppage(0, 1, 4);
        due("five days", x.back(0, 1), 702 * 5 / 7);
        x.stoppage(0, 0, 8);
        due("seven days at most", x.back(0, 1), 702);
        x.stoppage(0, 0, 13);
        due("it does not come", x.back(0, 1), 702);
        x.trip(0, 3, 3, 7 * 1440, 0);
        due("at its place: not away, week 1, 7 days", x.late(2) == 10080 ? x.back(2, 1) : -5, 771);
        x.trip(0, 3, 3, 7 * 1440 - 1, 10078);
        due("week 0", x.back(3, 1), 701 / 7);
        rules(x, "price 0 - 10;");
        due("towards 0", x.back(3, 1), -1);
        rules(x, "price 2000 * 1000 * 1000;");
        due("the product does not wrap", x.back(0, 1), 2000000000);
    }

    private static void promise15() {
        WeekBoats x = new WeekBoats();
        x.boat(4, 10, 0, 60);
        due("no trips", x.rung(), 0);
        x.trip(0, 0, 1, 480, 500);
        x.trip(0, 0, 1, 480, 499);
        x.trip(0, 1, 2, 480, 500);
        x.trip(0, 0, 2, 480, 520);
        due("no stoppages", x.rung(), 0);
        x.stoppage(0, 0, 0);
        due("late by it; late without it, too; not late; late by it", x.rung(), 1 | 8);
        x.stoppage(1, 0, 13);
        due("three", x.rung(), 1 | 4 | 8);
        due("comes heed them still", x.comes(0, 1, 2, 480), -1);
        x.stoppage(-1, 0, 0);
        due("none any more", x.rung(), 0);
        x.trip(0, 3, 4, 480, 1939);
        x.stoppage(3, 0, 0);
        due("late by a minute", x.late(4) == 1 ? x.rung() : -5, 16);
        WeekBoats y = new WeekBoats();
        y.boat(4, 10, 0, 60);
        y.stoppage(0, 0, 0);
        for (int k = 0; k < 20; k++) {
            y.trip(0, 0, 1, 480, 500);
        }
        due("twenty", y.rung(), (1 << 20) - 1);
        due("all late", y.late(-1), 20);
        y.stoppage(-1, 0, 0);
        due("none late", y.late(-1), 0);
    }

    private static void promise16and17() {
        WeekBoats x = new WeekBoats();
        x.boat(4, 10, 0, 60);
        due("none", x.pumped(0, 7, 480, 0, 0), -1);
        due("point", x.pump(16, true), false);
        due("point", x.pump(-1, true), false);
        due("is", x.pump(9, true), true);
        due("is", x.pump(4, true), true);
        due("the first one it comes to", x.pumped(0, 7, 480, 0, 0), 9);
        due("when", x.pumped(0, 7, 480, 0, 1), 520);
        x.pump(5, true);
        due("the least of two", x.pumped(0, 7, 480, 0, 0), 5);
        x.pump(7, true);
        due("where it is", x.pumped(0, 7, 480, 0, 0), 7);
        due("at once", x.pumped(0, 7, 480, 0, 1), 480);
        due("is not", x.pump(7, false), true);
        due("is not twice", x.pump(7, false), true);
        due("5 again", x.pumped(0, 7, 480, 0, 0), 5);
        x.stoppage(6, 0, 13);
        due("comes only up", x.pumped(0, 7, 480, 0, 0), 9);
        int time = 8 * 1440;
        due("it comes at 520 of the day", x.pumped(0, 7, time, 0, 1), time + 520);
        due("full one minute ahead", x.pumped(0, 7, time, time + 520 - 10081, 2), 1);
        due("full as it comes", x.pumped(0, 7, time, time + 520 - 10080, 2), 0);
        due("since as time", x.pumped(0, 7, time, time, 2), 0);
        due("since behind time", x.pumped(0, 7, time, time + 1, 2), -1);
        due("since", x.pumped(0, 7, time, -1, 2), -1);
        due("what", x.pumped(0, 7, time, 0, 3), -1);
        due("what", x.pumped(0, 7, time, 0, -1), -1);
        due("boat", x.pumped(1, 7, time, 0, 0), -1);
        due("point", x.pumped(0, -1, time, 0, 0), -1);
        due("time", x.pumped(0, 7, 20160, 0, 0), -1);
        x.pump(0, true);
        due("point 0", x.pumped(0, 1, 480, 0, 0), 0);
        x.pump(0, false);
        x.stoppage(8, 0, 13);
        due("it comes to none", x.pumped(0, 7, 480, 0, 0), -1);
        due("nor is it full", x.pumped(0, 7, time, 0, 2), -1);
    }

    private static void promise18() {
        WeekBoats x = new WeekBoats();
        x.boat(4, 10, 0, 60);
        x.stretch(0, 0, 9, 5);
        // m minutes later nine locks of 15 + (60 - m) / 6
        due("own teaching counts not", x.enough(0, 0, 1, 480, 480 + 9 * 25 - 1), 1);
        due("none needed", x.enough(0, 0, 1, 480, 480 + 9 * 25), 0);
        due("37 and locks of 18", x.enough(0, 0, 1, 480, 480 + 37 + 9 * 18), 37);
        due("a minute less", x.enough(0, 0, 1, 480, 480 + 37 + 9 * 18 - 1), 43);
        due("55 and locks of 15", x.enough(0, 0, 1, 480, 480 + 55 + 9 * 15), 55);
        due("never so soon", x.enough(0, 0, 1, 480, 480 + 55 + 9 * 15 - 1), -1);
        due("at night it can be long", x.enough(0, 0, 1, 0, 480 + 9 * 15), 55);
        due("at once", x.enough(0, 3, 3, 480, 480), 0);
        due("too late already", x.enough(0, 3, 3, 480, 479), -1);
        due("the last minute", x.enough(0, 3, 3, 20159, 20159), 0);
        due("does not come", x.enough(0, 0, 1, 20159, 20159), -1);
        due("due", x.enough(0, 3, 3, 480, 20160), -1);
        due("due", x.enough(0, 3, 3, 480, -1), -1);
        x.boat(4, 10, 0, 0);
        due("its own again", x.comes(0, 0, 1, 480), 480 + 9 * 15);
    }

    private static void promise19() {
        WeekBoats x = new WeekBoats();
        x.boat(4, 10, 0, 60);
        due("due", x.trip(0, 0, 1, 480, 20160), -1);
        due("due", x.trip(0, 0, 1, 480, -1), -1);
        for (int k = 0; k < 20; k++) {
            due("trip " + k, x.trip(0, 0, 1, 480, k * 40), k);
        }
        due("there are 20", x.trip(0, 0, 1, 480, 500), -1);
        due("twenty", x.look(1), 20);
        due("each is kept", x.late(3), 380);
    }

    private static void promise20() {
        WeekBoats x = new WeekBoats();
        x.boat(4, 10, 0, 60);
        due("no trips", x.late(-1), 0);
        due("none such", x.late(0), -1);
        x.trip(0, 0, 1, 480, 500);
        x.trip(0, 0, 1, 480, 499);
        x.trip(0, 0, 1, 20159, 20159);
        due("in time", x.late(0), 0);
        due("by a minute", x.late(1), 1);
        due("does not come", x.late(2), 20160);
        due("two", x.late(-1), 2);
        due("none such", x.late(3), -1);
        due("none such", x.late(-2), -1);
        x.stretch(0, 9, 0, 5);
        due("as it is now", x.late(0), 160);
        due("three", x.late(-1), 3);
    }

    private static void promise21() {
        WeekBoats x = new WeekBoats();
        x.boat(4, 10, 0, 60);
        x.boat(4, 10, 0, 60);
        due("boat", x.log(2, 0, 0), -1);
        due("point", x.log(0, 16, 0), -1);
        due("time", x.log(0, 0, 20160), -1);
        due("time", x.log(0, 0, -1), -1);
        for (int n = 1; n <= 10; n++) {
            due("log " + n, x.log(0, 0, n - 1), n);
            if (n < 10) {
                due("not above " + n, x.log(0, 0, n - 1), -1);
            }
        }
        due("it has ten", x.log(0, 0, 100), -1);
        due("of another boat", x.log(1, 15, 20159), 1);
    }

    private static void promise22() {
        WeekBoats x = new WeekBoats();
        x.boat(4, 10, 5, 60);
        due("at home from 0 on", x.could(0, 5, 0, 0), 1);
        due("comes at 500", x.could(0, 6, 0, 499), 0);
        due("comes at 500", x.could(0, 6, 0, 500), 1);
        due("later, too", x.could(0, 6, 501, 501), 1);
        due("anything behind", x.could(0, 15, 20159, 20159), 1);
        x.log(0, 7, 600);
        due("from 6 by 580", x.could(0, 6, 580, 599), 1);
        due("not behind", x.could(0, 6, 581, 599), 0);
        due("nor at the log's own minute", x.could(0, 6, 581, 600), 0);
        due("from the log on", x.could(0, 6, 581, 620), 1);
        due("at the log", x.could(0, 7, 600, 600), 1);
        due("ahead of the log", x.could(0, 7, 519, 519), 0);
        due("ahead of the log", x.could(0, 7, 520, 520), 1);
        due("9 is too far", x.could(0, 9, 561, 639), 0);
        due("8 and back", x.could(0, 8, 540, 540), 1);
        due("8 and back", x.could(0, 8, 0, 539), 0);
        due("9 and back are 600 at least", x.could(0, 9, 560, 560), 1);
        due("10 and back are more", x.could(0, 10, 0, 600), 0);
        x.log(0, 7, 650);
        due("8 and back between the logs", x.could(0, 8, 621, 649), 1);
        due("only up to 630", x.could(0, 8, 631, 649), 0);
        due("9 not", x.could(0, 9, 601, 680), 0);
        due("9 behind the last one", x.could(0, 9, 601, 690), 1);
        x.stoppage(7, 1, 13);
        due("8 still, on day 0", x.could(0, 8, 621, 649), 1);
        x.stoppage(7, 0, 0);
        due("there is a stoppage", x.could(0, 8, 621, 649), 0);
        x.stoppage(-1, 0, 0);
        x.stretch(6, 9, 0, 5);
        due("a log to which it does not come in time", x.could(0, 5, 0, 599), 0);
        due("not even at home", x.could(0, 5, 0, 0), 0);
        WeekBoats z = new WeekBoats();
        z.boat(4, 10, 5, 60);
        z.log(0, 6, 1190);
        z.log(0, 5, 1950);
        due("7 at 1210, and back by the next morning's 1940 at 5", z.could(0, 7, 1200, 1949), 0);
        due("6 all the evening", z.could(0, 6, 1930, 1930), 1);
        z.stoppage(5, 1, 1);
        due("no way on to the next log", z.could(0, 6, 1200, 1949), 0);
        WeekBoats y = new WeekBoats();
        y.boat(4, 10, 5, 60);
        y.log(0, 3, 0);
        due("a log at 0 stands for home", y.could(0, 5, 0, 0), 0);
        due("there", y.could(0, 3, 0, 0), 1);
        int[][] bad = {{-1, 0, 0, 0}, {1, 0, 0, 0}, {0, -1, 0, 0}, {0, 16, 0, 0}, {0, 0, -1, 0}, {0, 0, 0, 20160},
            {0, 0, 5, 4}};
        for (int[] b : bad) {
            due("could " + b[0] + " " + b[1] + " " + b[2] + " " + b[3], x.could(b[0], b[1], b[2], b[3]), -1);
        }
    }

    private static void promise23() {
        WeekBoats x = new WeekBoats();
        due("nobody", x.whose(3, 0, 500, 0), 0);
        due("nobody", x.whose(3, 0, 500, 1), -1);
        x.boat(4, 10, 5, 60);
        x.boat(4, 10, 2, 60);
        x.boat(4, 10, 9, 60);
        due("one", x.whose(3, 0, 500, 0), 2);
        due("sure", x.whose(3, 0, 500, 1), 1);
        due("two", x.whose(3, 0, 520, 0), 3);
        due("not sure", x.whose(3, 0, 520, 1), -1);
        due("all", x.whose(3, 0, 600, 0), 7);
        due("one minute", x.whose(3, 500, 500, 0), 2);
        due("none", x.whose(3, 0, 499, 0), 0);
        due("nobody is", x.whose(3, 0, 499, 1), -1);
        due("what", x.whose(3, 0, 500, 2), -1);
        due("what", x.whose(3, 0, 500, -1), -1);
        due("point", x.whose(16, 0, 500, 0), -1);
        due("from", x.whose(3, -1, 500, 0), -1);
        due("to", x.whose(3, 0, 20160, 0), -1);
        due("from behind to", x.whose(3, 501, 500, 0), -1);
    }

    private static void promise24() {
        WeekBoats x = new WeekBoats();
        due("no boats", x.tonight(480, 0), 0);
        due("the least", x.tonight(480, 16), 0);
        due("none there", x.tonight(480, 17), 0);
        x.boat(4, 10, 5, 60);
        x.boat(4, 10, 3, 60);
        x.boat(4, 10, 4, 60);
        due("at home", x.tonight(0, 5), 1);
        due("the least of three", x.tonight(0, 16), 3);
        due("one", x.tonight(0, 17), 1);
        due("4 by all", x.tonight(500, 4), 7);
        due("3 by two", x.tonight(500, 3), 6);
        due("the crowd", x.tonight(500, 16), 4);
        due("three", x.tonight(500, 17), 3);
        due("nobody so far", x.tonight(500, 7), 0);
        x.log(0, 12, 490);
        x.log(0, 13, 505);
        due("from the last log not behind", x.tonight(504, 12), 1);
        due("from the last log not behind", x.tonight(505, 12), 0);
        due("ahead of it from home", x.tonight(489, 5), 1);
        due("the others", x.tonight(505, 16), 3);
        due("two", x.tonight(505, 17), 2);
        WeekBoats y = new WeekBoats();
        y.boat(4, 10, 1, 60);
        due("the crowd at point 1", y.tonight(0, 16), 1);
        due("time", x.tonight(-1, 0), -1);
        due("time", x.tonight(20160, 0), -1);
        due("what", x.tonight(505, 18), -1);
        due("what", x.tonight(505, -1), -1);
        due("what 15", x.tonight(20159, 15), 7);
    }
}
