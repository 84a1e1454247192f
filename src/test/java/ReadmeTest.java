import java.io.IOException;
import java.nio.file.Files;
import java.nio.file.Path;
import java.util.ArrayList;
import java.util.List;
import java.util.regex.Matcher;
import java.util.regex.Pattern;

/** The example in README.md: its calls are these, in this order, and answer what its remarks say. */
public final class ReadmeTest {
    private static final Pattern WITH_ANSWER = Pattern.compile("house\\.(\\w+\\(.*\\)); *// (-?\\d+)(:.*)?");

    private static final List<String> made = new ArrayList<>();

    private ReadmeTest() {
    }

    public static void main(String[] args) throws IOException {
        makeTheCalls();
        List<String> told = new ArrayList<>();
        for (String line : Files.readAllLines(Path.of("README.md"))) {
            Matcher matcher = WITH_ANSWER.matcher(line);
            if (matcher.matches()) {
                told.add(matcher.group(1) + " " + matcher.group(2));
            }
        }
        if (!told.equals(made)) {
            Check.complain("README.md tells " + told + ", the program answers " + made);
        }
        Check.end("ReadmeTest");
    }

    private static void makeTheCalls() {
        DroitLine house = new DroitLine();
        int lot = house.lot(0, 1000, DroitLine.LIVES);
        answered("advance(lot, 400)", house.advance(lot, 400));
        answered("bid(lot, 3, 2540)", house.bid(lot, 3, 2540));
        answered("bid(lot, 7, 1800)", house.bid(lot, 7, 1800));
        answered("hammer(lot)", house.hammer(lot));
        answered("buyerOf(lot)", house.buyerOf(lot));
        answered("days(50)", house.days(50));
        answered("pay(lot)", house.pay(lot));
        answered("settle(lot)", house.settle(lot));
        answered("held()", house.held());
    }

    private static void answered(String call, long answer) {
        made.add(call + " " + answer);
    }
}
