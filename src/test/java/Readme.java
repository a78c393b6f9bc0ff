import java.lang.reflect.Method;
import java.lang.reflect.Modifier;
import java.nio.file.Files;
import java.nio.file.Path;

/** What README.md says of the use: its example as it stands there, and a row for each call. */
public final class Readme {
    public static void main(String[] args) throws Exception {
        Checks checks = new Checks();
        String readme = Files.readString(Path.of("README.md"));
        example(checks);
        isWritten(checks, readme, Files.readString(Path.of("src/test/java/Readme.java")));
        for (Method each : TankLayers.class.getDeclaredMethods()) {
            if (Modifier.isPublic(each.getModifiers())) {
                checks.due(each.getName() + " is told", rowOf(readme, each.getName()), each.getParameterCount());
            }
        }
        checks.end();
    }

    private static void example(Checks checks) {
        TankLayers house = new TankLayers();
        int tank = house.tank(300, 20000);
        house.cold(10000);
        house.rod(tank, 0, 100, 400000, 90, 45000, 60000);
        house.loses(tank, 20000, 1, 1000);
        house.draws(tank, 420, 40);
        house.run(300);
        house.run(300);
        long drawn = house.told(tank, 1);
        long top = house.sensor(tank, 299);
        checks.due("the time", house.run(1), 601);
        checks.due("drawn", drawn, 40);
        checks.due("the top is warmer than low, and not above high by much",
            top >= 45000 && top < 65000 ? 1 : 0, 1);
        checks.due("the rod was on", house.told(tank, 5) > 0 ? 1 : 0, 1);
    }

    /** Each line of README.md's example is a line of the one above. */
    private static void isWritten(Checks checks, String readme, String test) {
        String begin = "```java\n";
        int from = readme.indexOf(begin) + begin.length();
        String[] lines = readme.substring(from, readme.indexOf("```", from)).split("\n");
        checks.due("lines of the example", lines.length, 10);
        for (String line : lines) {
            String code = line.replaceFirst(" *//.*", "");
            checks.due(code + " is tried", test.contains("        " + code + "\n") ? 1 : 0, 1);
        }
    }

    /** How many arguments the table names behind a call's name; -1 if it has no row. */
    private static int rowOf(String readme, String name) {
        String begin = "\n| `" + name + "(";
        int from = readme.indexOf(begin);
        if (from < 0) {
            return -1;
        }
        from += begin.length();
        return readme.substring(from, readme.indexOf(")`", from)).split(", ").length;
    }
}
