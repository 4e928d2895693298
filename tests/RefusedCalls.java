import java.util.ArrayList;
import java.util.List;
import java.util.function.ToLongFunction;

/**
 * A refused call answers what the document says of it and leaves everything as it was; so does a
 * question. Each is put to an object in the middle of its work and to one that is full, and
 * everything that can be asked is then compared with an object that was never called so.
 */
public final class RefusedCalls {
    private static final int NOTHING = -1000000;
    private static final int LEAST = Integer.MIN_VALUE;
    private static final int MOST = Integer.MAX_VALUE;
    private static int wrong = 0;
    private static int refused = 0;

    private static final class Call {
        final String name;
        final long due;
        final ToLongFunction<WeekBoats> ask;

        Call(String name, long due, ToLongFunction<WeekBoats> ask) {
            this.name = name;
            this.due = due;
            this.ask = ask;
        }
    }

    public static void main(String[] args) {
        List<Call> always = new ArrayList<>();
        numbersOfTheCanal(always);
        numbersOfBoats(always);
        numbersOfTheRest(always);
        questions(always);
        for (Call c : always) {
            changesNothing(c, false);
            changesNothing(c, true);
        }
        for (Call c : full()) {
            changesNothing(c, true);
        }
        System.out.println(wrong == 0 ? refused + " calls leave all as it was" : wrong + " answers are not as due");
        if (wrong != 0) {
            System.exit(1);
        }
    }

    private static long one(boolean b) {
        return b ? 1 : 0;
    }

    private static void no(List<Call> all, String name, ToLongFunction<WeekBoats> ask) {
        all.add(new Call(name, -1, ask));
    }

    private static void nothing(List<Call> all, String name, ToLongFunction<WeekBoats> ask) {
        all.add(new Call(name, NOTHING, ask));
    }

    private static void isFalse(List<Call> all, String name, ToLongFunction<WeekBoats> ask) {
        all.add(new Call(name, 0, ask));
    }

    /** Numbers that are below, above, and far from what least and most allow. */
    private static int[] outside(int least, int most) {
        return new int[] {least - 1, most + 1, LEAST, MOST};
    }

    private static void numbersOfTheCanal(List<Call> all) {
        for (int v : outside(0, 14)) {
            isFalse(all, "stretch i " + v, x -> one(x.stretch(v, 7, 7, 77)));
        }
        for (int v : outside(0, 9)) {
            isFalse(all, "stretch miles " + v, x -> one(x.stretch(3, v, 7, 77)));
            isFalse(all, "stretch locks " + v, x -> one(x.stretch(3, 7, v, 77)));
        }
        for (int v : outside(1, 99)) {
            isFalse(all, "stretch road " + v, x -> one(x.stretch(3, 7, 7, v)));
        }
        for (int v : outside(0, 999)) {
            isFalse(all, "water " + v, x -> one(x.water(v)));
        }
        for (int v : new int[] {-2, 15, LEAST, MOST}) {
            no(all, "stoppage i " + v, x -> x.stoppage(v, 2, 3));
        }
        for (int v : outside(0, 13)) {
            no(all, "stoppage from " + v, x -> x.stoppage(1, v, 13));
            no(all, "stoppage to " + v, x -> x.stoppage(1, 0, v));
        }
        no(all, "stoppage from behind to", x -> x.stoppage(1, 4, 3));
        for (int v : outside(0, 15)) {
            isFalse(all, "pump point " + v, x -> one(x.pump(v, true)));
            isFalse(all, "no pump point " + v, x -> one(x.pump(v, false)));
            isFalse(all, "weight point " + v, x -> one(x.weight(v, 9)));
        }
        for (int v : outside(0, 99)) {
            isFalse(all, "weight v " + v, x -> one(x.weight(2, v)));
        }
        isFalse(all, "end -1", x -> one(x.end(-1)));
        isFalse(all, "end 501", x -> one(x.end(501)));
        isFalse(all, "end least", x -> one(x.end(LEAST)));
        isFalse(all, "end most", x -> one(x.end(MOST)));
    }

    private static void numbersOfBoats(List<Call> all) {
        for (int v : outside(2, 12)) {
            no(all, "boat berths " + v, x -> x.boat(v, 5, 5, 5));
            no(all, "booking berths " + v, x -> x.booking(0, 0, 5, v));
            no(all, "more berths " + v, x -> x.more(2, v, 0));
        }
        for (int v : outside(0, 99)) {
            no(all, "boat age " + v, x -> x.boat(5, v, 5, 5));
            nothing(all, "held depth " + v, x -> x.held(0, v, 3, 1));
        }
        for (int v : outside(0, 60)) {
            no(all, "boat taught " + v, x -> x.boat(5, 5, 5, v));
            isFalse(all, "gas days " + v, x -> one(x.gas(2, 40, v)));
        }
        for (int v : new int[] {-1, 10, LEAST, MOST}) {
            no(all, "comes boat " + v, x -> x.comes(v, 0, 1, 480));
            no(all, "maybe boat " + v, x -> x.maybe(v, 0, 480, 500));
            no(all, "harm boat " + v, x -> x.harm(v, 0, 1, 480));
            no(all, "pumped boat " + v, x -> x.pumped(v, 0, 480, 0, 0));
            no(all, "enough boat " + v, x -> x.enough(v, 0, 1, 480, 20159));
            no(all, "trip boat " + v, x -> x.trip(v, 0, 1, 480, 500));
            no(all, "log boat " + v, x -> x.log(v, 0, 15000));
            no(all, "could boat " + v, x -> x.could(v, 0, 0, 500));
            isFalse(all, "gas boat " + v, x -> one(x.gas(v, 40, 3)));
            isFalse(all, "gas boat, not told any more " + v, x -> one(x.gas(v, 40, 0)));
            nothing(all, "price boat " + v, x -> x.price(v, 0, false));
            nothing(all, "held boat " + v, x -> x.held(v, 9, 3, 1));
        }
        for (int v : outside(0, 15)) {
            no(all, "boat home " + v, x -> x.boat(5, 5, v, 5));
            no(all, "comes from " + v, x -> x.comes(0, v, 1, 480));
            no(all, "comes to " + v, x -> x.comes(0, 1, v, 480));
            no(all, "maybe point " + v, x -> x.maybe(0, v, 480, 500));
            no(all, "harm from " + v, x -> x.harm(0, v, 1, 480));
            no(all, "harm to " + v, x -> x.harm(0, 1, v, 480));
            no(all, "pumped point " + v, x -> x.pumped(0, v, 480, 0, 0));
            no(all, "enough from " + v, x -> x.enough(0, v, 1, 480, 20159));
            no(all, "enough to " + v, x -> x.enough(0, 1, v, 480, 20159));
            no(all, "trip from " + v, x -> x.trip(0, v, 1, 480, 500));
            no(all, "trip to " + v, x -> x.trip(0, 1, v, 480, 500));
            no(all, "log point " + v, x -> x.log(1, v, 15000));
            no(all, "could point " + v, x -> x.could(0, v, 0, 500));
            no(all, "whose point " + v, x -> x.whose(v, 0, 500, 0));
            no(all, "booking from " + v, x -> x.booking(v, 0, 5, 2));
            no(all, "booking to " + v, x -> x.booking(0, v, 5, 2));
            no(all, "more home " + v, x -> x.more(2, 5, v));
        }
        for (int v : outside(0, 20159)) {
            no(all, "comes time " + v, x -> x.comes(0, 1, 1, v));
            no(all, "maybe since " + v, x -> x.maybe(0, 1, v, 20159));
            no(all, "maybe time " + v, x -> x.maybe(0, 1, 0, v));
            no(all, "harm time " + v, x -> x.harm(0, 1, 1, v));
            no(all, "pumped time " + v, x -> x.pumped(0, 4, v, 0, 0));
            no(all, "pumped since " + v, x -> x.pumped(0, 4, 20159, v, 0));
            no(all, "enough time " + v, x -> x.enough(0, 1, 1, v, 20159));
            no(all, "trip time " + v, x -> x.trip(0, 1, 1, v, 500));
            no(all, "trip due " + v, x -> x.trip(0, 1, 1, 480, v));
            no(all, "log time " + v, x -> x.log(1, 1, v));
            no(all, "could from " + v, x -> x.could(0, 1, v, 20159));
            no(all, "could to " + v, x -> x.could(0, 1, 0, v));
            no(all, "whose from " + v, x -> x.whose(1, v, 20159, 0));
            no(all, "whose to " + v, x -> x.whose(1, 0, v, 0));
            no(all, "tonight time " + v, x -> x.tonight(v, 0));
        }
        no(all, "maybe behind", x -> x.maybe(0, 1, 481, 480));
        no(all, "pumped since behind", x -> x.pumped(0, 4, 480, 481, 0));
        no(all, "could behind", x -> x.could(0, 1, 481, 480));
        no(all, "whose behind", x -> x.whose(1, 481, 480, 0));
        no(all, "log not above the last one", x -> x.log(0, 1, 2000));
        no(all, "log below the last one", x -> x.log(0, 1, 1999));
    }

    private static void numbersOfTheRest(List<Call> all) {
        for (int v : outside(0, 9)) {
            no(all, "booking week " + v, x -> x.booking(0, 0, v, 2));
            nothing(all, "price week " + v, x -> x.price(0, v, false));
            nothing(all, "held said " + v, x -> x.held(0, 9, v, 1));
            nothing(all, "held week " + v, x -> x.held(0, 9, 3, v));
        }
        for (int v : outside(0, 999)) {
            isFalse(all, "gas date " + v, x -> one(x.gas(2, v, 4)));
            isFalse(all, "gas date, not told any more " + v, x -> one(x.gas(2, v, 0)));
            no(all, "left shut " + v, x -> x.left(9, 50, 9, v, 3));
            no(all, "shuts shut " + v, x -> x.shuts(9, 50, 9, v));
        }
        for (int v : outside(0, 99)) {
            no(all, "left use " + v, x -> x.left(v, 50, 9, 9, 3));
            no(all, "left gain " + v, x -> x.left(9, 50, v, 9, 3));
            no(all, "shuts use " + v, x -> x.shuts(v, 50, 9, 9));
            no(all, "shuts gain " + v, x -> x.shuts(9, 50, v, 9));
        }
        for (int v : outside(0, 100)) {
            no(all, "left rain " + v, x -> x.left(9, v, 9, 9, 3));
            no(all, "shuts rain " + v, x -> x.shuts(9, v, 9, 9));
        }
        for (int v : outside(0, 60)) {
            no(all, "left n " + v, x -> x.left(9, 50, 9, 9, v));
        }
        for (int v : outside(0, 300)) {
            no(all, "job " + v, x -> x.job(v));
            no(all, "call work " + v, x -> x.call(9999, 1, v));
        }
        for (int v : outside(0, 9999)) {
            no(all, "queue minute " + v, x -> x.queue(v, 1));
            no(all, "call minute " + v, x -> x.call(v, 1, 9));
        }
        for (int v : new int[] {-2, 2, LEAST, MOST}) {
            no(all, "queue way " + v, x -> x.queue(9999, v));
        }
        for (int v : outside(0, 15)) {
            no(all, "call point " + v, x -> x.call(9999, v, 9));
            no(all, "taken a " + v, x -> x.taken(v, 0, 0));
            no(all, "taken b " + v, x -> x.taken(0, v, 0));
        }
        no(all, "queue falls", x -> x.queue(102, 1));
        no(all, "call falls", x -> x.call(302, 1, 9));
        for (int v : outside(1, 4)) {
            no(all, "given k " + v, x -> x.given(v, 0));
        }
        for (int v : outside(1, 3)) {
            no(all, "more k " + v, x -> x.more(v, 5, 0));
            no(all, "turned hands " + v, x -> x.turned(v, 0));
        }
        for (int v : outside(0, 13)) {
            no(all, "open day " + v, x -> x.open(v, 0));
        }
        for (int v : new int[] {-2, 20, LEAST, MOST}) {
            no(all, "late k " + v, x -> x.late(v));
            nothing(all, "back k " + v, x -> x.back(v, 0));
        }
        for (int v : outside(0, 1)) {
            no(all, "fault what " + v, x -> x.fault(v));
            no(all, "open what " + v, x -> x.open(0, v));
            nothing(all, "back what " + v, x -> x.back(0, v));
            no(all, "whose what " + v, x -> x.whose(1, 0, 500, v));
            no(all, "vans what " + v, x -> x.vans(v));
        }
        for (int v : outside(0, 2)) {
            no(all, "pumped what " + v, x -> x.pumped(0, 4, 480, 0, v));
        }
        for (int v : outside(0, 17)) {
            no(all, "tonight what " + v, x -> x.tonight(600, v));
        }
        for (int v : outside(0, 7)) {
            no(all, "look what " + v, x -> x.look(v));
        }
        for (int v : new int[] {-1, 4, 9, 17, LEAST, MOST}) {
            no(all, "lock what " + v, x -> x.lock(v));
        }
        for (int v : new int[] {-1, 2, 9, 18, LEAST, MOST}) {
            no(all, "given what " + v, x -> x.given(2, v));
        }
        for (int v : new int[] {-1, 3, 9, 17, LEAST, MOST}) {
            no(all, "dock what " + v, x -> x.dock(v));
        }
        for (int v : new int[] {-1, 3, 9, 18, LEAST, MOST}) {
            no(all, "turned what " + v, x -> x.turned(2, v));
        }
        for (int v : new int[] {-1, 3, 99, 116, 199, 216, LEAST, MOST}) {
            no(all, "van what " + v, x -> x.van(v));
        }
        for (int v : new int[] {-1, 3, 9, 22, LEAST, MOST}) {
            no(all, "taken what " + v, x -> x.taken(0, 1, v));
        }
    }

    /** The answers to these are not looked at here: only that nothing is changed by them. */
    private static void questions(List<Call> all) {
        all.add(new Call("look", 12, x -> x.look(6) == 640 ? 12 : x.look(6)));
        all.add(new Call("enough", 0, x -> x.enough(1, 1, 1, 480, 480)));
        all.add(new Call("a boat more", 0, x -> x.more(2, 12, 13) >= 0 ? 0 : 1));
        all.add(new Call("water left", 1000000, x -> x.left(9, 50, 9, 9, 0)));
        all.add(new Call("shuts now", 0, x -> x.shuts(9, 50, 9, 999)));
        all.add(new Call("comes", 480, x -> x.comes(2, 9, 9, 480)));
        all.add(new Call("harm", 0, x -> x.harm(2, 9, 9, 480)));
        all.add(new Call("maybe", 1 << 9, x -> x.maybe(2, 9, 480, 480)));
        all.add(new Call("pumped", 4, x -> x.pumped(2, 4, 480, 0, 0)));
        all.add(new Call("hands", 0, x -> x.turned(1, 0) > 600 ? 0 : 1));
        all.add(new Call("vans elsewhere", 0, x -> x.taken(15, 15, 0) > 0 ? 0 : 1));
        all.add(new Call("the end of all that is there", 1, x -> one(x.end(tapeOf(x)))));
    }

    /** How many bytes the tape has, found by asking for ends that cannot be. */
    private static int tapeOf(WeekBoats x) {
        int n = 500;
        while (n > 0 && !x.end(n)) {
            n--;
            if (n == 499) {
                n = 25;
            }
        }
        return n;
    }

    private static List<Call> full() {
        List<Call> all = new ArrayList<>();
        no(all, "a stoppage more", x -> x.stoppage(1, 2, 3));
        no(all, "a boat more", x -> x.boat(5, 5, 5, 5));
        no(all, "twenty bytes more", x -> x.feed(0x3b3b3b3b, 1, 2, 3, 4));
        no(all, "a trip more", x -> x.trip(0, 0, 1, 480, 500));
        no(all, "a log more", x -> x.log(0, 1, 15000));
        no(all, "one more at the lock", x -> x.queue(9999, 1));
        no(all, "a booking more", x -> x.booking(0, 0, 5, 2));
        isFalse(all, "an eighth boat in the dock", x -> one(x.gas(8, 40, 3)));
        isFalse(all, "an eighth boat, not told any more", x -> one(x.gas(8, 40, 0)));
        no(all, "a job more", x -> x.job(30));
        no(all, "a call more", x -> x.call(9999, 1, 9));
        return all;
    }

    private static void changesNothing(Call c, boolean full) {
        WeekBoats x = make(full);
        WeekBoats y = make(full);
        long got = c.ask.applyAsLong(x);
        String where = c.name + (full ? " of a full one" : "");
        refused++;
        if (got != c.due) {
            wrong++;
            System.out.println(where + " answered " + got + ", due is " + c.due);
        }
        List<Long> one = everything(x, full);
        List<Long> other = everything(y, full);
        if (!one.equals(other)) {
            wrong++;
            int i = 0;
            while (one.get(i).equals(other.get(i))) {
                i++;
            }
            System.out.println("behind " + where + " answer " + i + " of all is " + one.get(i) + ", due is " + other.get(i));
        }
    }

    private static void feed(WeekBoats x, String text) {
        for (int i = 0; i < text.length(); i += 20) {
            int[] n = new int[5];
            for (int k = 0; k < 20; k++) {
                n[k / 4] = n[k / 4] << 8 | (i + k < text.length() ? text.charAt(i + k) : ' ');
            }
            x.feed(n[0], n[1], n[2], n[3], n[4]);
        }
    }

    /** Some 130 calls, if it is full. */
    private static WeekBoats make(boolean full) {
        WeekBoats x = new WeekBoats();
        for (int i = 0; i < 15; i++) {
            x.stretch(i, 1 + i % 3, i % 2, 3 + i * 7 % 11);
        }
        x.water(640);
        int boats = full ? 10 : 4;
        for (int b = 0; b < boats; b++) {
            x.boat(3 + b % 9, 10 + b, b == 2 ? 13 : b / 3, 60 - 7 * (b % 5));
        }
        feed(x, "locks 9 18 when day<6;tunnel 2 up 9 15;price 300+20*age-week when week<8;"
            + "hold depth*said+week;harm 1+taught/9;");
        x.rules();
        feed(x, "locks 25 1;");
        x.rules();
        for (int n = 0; n < (full ? 8 : 2); n++) {
            x.stoppage(5 + n, n, n + 2);
        }
        x.pump(0, true);
        x.pump(4, true);
        x.pump(9, true);
        for (int k = 0; k < (full ? 20 : 3); k++) {
            x.trip(k % boats, k % 7, 3 + k % 5, 480 + k * 400, 700 + k * 410);
        }
        for (int n = 0; n < (full ? 10 : 2); n++) {
            x.log(0, n % 3, full ? 200 + n * 200 : 1000 + n * 1000);
        }
        x.log(1, 2, 900);
        int[] ways = {1, 1, 0, 0, 0, 1, 1};
        for (int n = 0; n < (full ? 7 : 3); n++) {
            x.queue(n == 0 ? 100 : 103, ways[n]);
        }
        for (int n = 0; n < (full ? 8 : 3); n++) {
            x.booking(n % 2, (n + 1) % 2, n / 2, 2 + n % 3);
        }
        for (int n = 0; n < (full ? 7 : 3); n++) {
            x.gas(n, 30 - 4 * n, 9 - n);
        }
        for (int n = 0; n < (full ? 8 : 3); n++) {
            x.job(100 + 17 * n % 60);
        }
        x.weight(2, 5);
        x.weight(11, 3);
        x.weight(14, 4);
        for (int n = 0; n < (full ? 12 : 3); n++) {
            x.call(n == 0 ? 290 : 303, n * 5 % 16, 20 + n);
        }
        for (int n = 0; n < (full ? 25 : 1); n++) {
            // "price 77;" begins the tape; the rest are blanks, and line ends of the last feeds
            x.feed(n == 0 ? 0x70726963 : 0x20202020, n == 0 ? 0x65203737 : 0x0a202020,
                n == 0 ? 0x3b202020 : 0x20202020, 0x20202020, 0x2020200a);
        }
        return x;
    }

    /** Some 330 answers; the rules on the tape are the last, as they change what rules. */
    private static List<Long> everything(WeekBoats x, boolean full) {
        List<Long> all = new ArrayList<>();
        int boats = full ? 10 : 4;
        for (int what = 0; what < 8; what++) {
            all.add((long) x.look(what));
        }
        all.add((long) x.fault(0));
        all.add((long) x.fault(1));
        for (int day = 0; day < 14; day++) {
            all.add((long) x.open(day, 0) * 100 + x.open(day, 1));
        }
        for (int p = 0; p < 15; p++) {
            all.add((long) x.comes(1, p, p + 1, 480 + 1440 * (p % 3)));
        }
        for (int b = 0; b < boats; b++) {
            all.add((long) x.comes(b, 0, 2, 480));
            all.add((long) x.harm(b, 0, 4, 480));
            all.add((long) x.price(b, b, true));
            all.add((long) x.could(b, 1, 700, 1000));
        }
        all.add((long) x.maybe(0, 2, 480, 900));
        for (int p = 0; p < 16; p += 5) {
            all.add((long) x.pumped(0, p, 480, 480, 0));
        }
        for (int k = -1; k < (full ? 20 : 3); k++) {
            all.add((long) x.late(k));
            all.add((long) x.back(k, k % 2));
        }
        all.add((long) x.rung());
        for (int t = 100; t < 2600; t += 300) {
            all.add((long) x.whose(1, t, t + 90, 0));
            all.add((long) x.tonight(t, 1));
            all.add((long) x.tonight(t, 16));
        }
        for (int i = 0; i < 17; i++) {
            all.add((long) x.lock(i));
            all.add((long) x.dock(i));
        }
        for (int i = 0; i < 18; i++) {
            all.add((long) x.given(2, i));
            all.add((long) x.turned(2, i));
        }
        all.add((long) x.given(4, 0));
        all.add((long) x.more(2, 5, 0));
        for (int p = 0; p < 16; p++) {
            all.add((long) x.van(100 + p));
        }
        all.add((long) x.van(0));
        all.add((long) x.van(200));
        all.add((long) x.vans(0));
        all.add((long) x.vans(1));
        for (int i = 0; i < 22; i++) {
            all.add((long) x.taken(3, 12, i));
        }
        all.add((long) x.left(9, 40, 9, 600, 9));
        all.add((long) x.shuts(9, 40, 9, 600));
        all.add((long) x.held(0, 9, 3, 2));
        all.add((long) x.rules());
        all.add((long) x.fault(0));
        all.add((long) x.price(0, 0, false));
        return all;
    }
}
