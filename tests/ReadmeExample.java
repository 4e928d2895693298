import java.nio.charset.StandardCharsets;
import java.nio.file.Files;
import java.nio.file.Paths;
import java.util.regex.Matcher;
import java.util.regex.Pattern;

/** README.md: its examples stand there as here and answer what is told beside them, and it names every call. */
public final class ReadmeExample {
    private static int wrong = 0;

    private static void due(String what, long got, long want) {
        if (got != want) {
            wrong++;
            System.out.println(what + " is " + got + ", due is " + want);
        }
    }

    private static String read(String file) throws Exception {
        return new String(Files.readAllBytes(Paths.get(file)), StandardCharsets.UTF_8);
    }

    public static void main(String[] args) throws Exception {
        firstExample();
        secondExample();
        String readme = read("README.md");
        standsThere(readme);
        namesEveryCall(readme);
        System.out.println(wrong == 0 ? "README.md says what is" : wrong + " things are not as README.md says");
        if (wrong != 0) {
            System.exit(1);
        }
    }

    private static WeekBoats firstExample() {
        // README:
WeekBoats x = new WeekBoats();
x.stretch(0, 2, 1, 10);                // between points 0 and 1: 2 miles, 1 lock, 10 minutes by road
int boat = x.boat(4, 10, 0, 60);       // 4 berths, 10 years old, home at point 0, taught 60 minutes
int comes = x.comes(boat, 0, 1, 480);  // leaving at 8:00 of day 0: it comes at minute 535
        // .
        due("boat", boat, 0);
        due("comes", comes, 535);
        return x;
    }

    // README:
static int tell(WeekBoats x, String text) {
    for (int i = 0; i < text.length(); i += 20) {
        int[] five = new int[5];
        for (int j = i; j < i + 20 && j < text.length(); j++) {
            five[(j - i) / 4] |= (text.charAt(j) & 255) << 24 - j % 4 * 8;
        }
        x.feed(five[0], five[1], five[2], five[3], five[4]);
    }
    x.end(text.length());
    return x.rules();
}
    // .

    private static void secondExample() {
        WeekBoats x = firstExample();
        int boat = 0;
        String lines4 = "    locks 9 16 when day < 5 and water < 600; locks 8 20;\n"
            + "    tunnel 3 up 8 12; tunnel 3 down 13 18;\n"
            + "    price 500 + berths * 10 when away = 0; price 900;\n"
            + "    hold depth * 5 when not (said = 0 or age > 30); harm 3 - taught / 20;\n";
        due("the lines of the text", tell(x, lines4), 8);
        // README:
int lines = tell(x, "locks 9 16 when day < 5; price 500 + berths * 10;");  // 2
int later = x.comes(boat, 0, 1, 480);    // the lock opens at 9:00: now minute 555
int price = x.price(boat, 0, false);     // 540
int trip = x.trip(boat, 0, 1, 480, 550); // due at minute 550
int late = x.late(trip);                 // by 5 minutes
int refund = x.back(trip, 1);            // a day of the week's price is given back: 540 * 1 / 7 = 77
int wrong = tell(x, "locks 25 3;");      // NONE; x.fault(0) is 2, x.fault(1) is 6
        // .
        due("lines", lines, 2);
        due("later", later, 555);
        due("price", price, 540);
        due("trip", trip, 0);
        due("late", late, 5);
        due("refund", refund, 77);
        due("wrong", wrong, WeekBoats.NONE);
        due("fault(0)", x.fault(0), 2);
        due("fault(1)", x.fault(1), 6);
    }

    /** What stands between the marks here stands in README.md, too. */
    private static void standsThere(String readme) throws Exception {
        Matcher m = Pattern.compile("// READM" + "E:\n(.*?) *// \\.\n", Pattern.DOTALL).matcher(read("tests/ReadmeExample.java"));
        int found = 0;
        while (m.find()) {
            found++;
            due("example " + found + " in README.md", readme.contains("```java\n" + m.group(1) + "```") ? 1 : 0, 1);
        }
        due("examples", found, 3);
        due("examples in README.md", readme.split("```java", -1).length - 1, found);
        due("the text of rules", readme.contains("    hold depth * 5 when not (said = 0 or age > 30); harm 3 - taught / 20;\n") ? 1 : 0, 1);
    }

    /** With the names of what it takes, as the source has them. */
    private static void namesEveryCall(String readme) throws Exception {
        Matcher m = Pattern.compile("\n    public (?:int|boolean) (\\w+)\\((.*?)\\) \\{").matcher(read("src/main/java/WeekBoats.java"));
        int found = 0;
        while (m.find()) {
            found++;
            String call = m.group(1) + "(" + m.group(2).replaceAll("(int|boolean) ", "") + ")";
            due(call + " in README.md", readme.contains("`" + call + "`") ? 1 : 0, 1);
        }
        due("calls", found, 42);
    }
}
