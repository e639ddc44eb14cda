import java.io.IOException;
import java.nio.file.Files;
import java.nio.file.Path;
import java.util.ArrayList;
import java.util.List;
import java.util.regex.Matcher;
import java.util.regex.Pattern;

/** The example of README.md: each of its calls answers what stands behind it there. */
public final class ReadmeTest {
    private static final Pattern CALL = Pattern.compile("valley\\.(\\w+)\\(([^)]*)\\); +// (-?\\d+): .*");

    public static void main(String[] args) throws IOException {
        List<String> calls = new ArrayList<>();
        ToldDrops valley = new ToldDrops();
        for (String line : exampleOf(Files.readString(Path.of("README.md"))).split("\n")) {
            Matcher call = CALL.matcher(line);
            if (call.matches()) {
                calls.add(call.group(1));
                Due.due("README: " + line, answer(valley, call.group(1), numbersOf(call.group(2))), Long.parseLong(call.group(3)));
            }
        }
        Due.due("calls of the example " + calls, calls.size(), 18);
        Due.end("ReadmeTest");
    }

    /** The first block of Java of the page. */
    private static String exampleOf(String page) {
        String[] behindStart = page.split("```java\n", 2);
        return behindStart.length < 2 ? "" : behindStart[1].split("```", 2)[0];
    }

    private static long[] numbersOf(String text) {
        if (text.isEmpty()) {
            return new long[0];
        }
        String[] parts = text.split(", ");
        long[] numbers = new long[parts.length];
        for (int part = 0; part < parts.length; part++) {
            numbers[part] = numberOf(parts[part]);
        }
        return numbers;
    }

    private static long numberOf(String text) {
        if (text.equals("ToldDrops.WHEEL")) {
            return ToldDrops.WHEEL;
        }
        return text.endsWith("L") ? Long.decode(text.substring(0, text.length() - 1)) : Long.parseLong(text);
    }

    private static long answer(ToldDrops valley, String name, long[] n) {
        switch (name) {
            case "set": return valley.set((int) n[0], (int) n[1]);
            case "gauge": return valley.gauge((int) n[0], (int) n[1], (int) n[2], (int) n[3], (int) n[4]);
            case "rain": return valley.rain((int) n[0], (int) n[1]);
            case "send": return valley.send((int) n[0]);
            case "run": return valley.run();
            case "ledger": return valley.ledger((int) n[0], (int) n[1]);
            case "runner": return valley.runner((int) n[0], (int) n[1]);
            case "ifAllCome": return valley.ifAllCome((int) n[0]);
            case "mostUntold": return valley.mostUntold();
            case "put": return valley.put(n[0]);
            case "wipe": return valley.wipe();
            case "fault": return valley.fault();
            case "undo": return valley.undo();
            case "save": return valley.save((int) n[0]);
            default: throw new IllegalArgumentException("the test does not know the call " + name);
        }
    }
}
