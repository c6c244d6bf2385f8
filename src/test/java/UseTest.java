import java.io.IOException;
import java.nio.file.Files;
import java.nio.file.Path;
import java.util.List;

/** README.md's example: each call answers what the README says behind it, and each of its lines stands here as it stands there. */
public final class UseTest {
    private static final Due D = new Due();

    public static void main(String[] args) throws IOException {
        D.part("the README's example");
        example();
        D.part("the README's lines");
        lines();
        D.end();
    }

    private static int tell(KinMeet x, String text) {
        int[] n = new int[5];
        for (int i = 0; i < text.length(); i += 20) {
            for (int j = 0; j < 20; j++) {
                n[j / 4] = n[j / 4] << 8 | (i + j < text.length() ? text.charAt(i + j) : ' ');
            }
            x.feed(n[0], n[1], n[2], n[3], n[4]);
        }
        return x.rules(text.length());
    }

    private static void example() {
        KinMeet x = new KinMeet();
        D.due("kin", x.kin(0, 0, 10, 0, false), 0);
        D.due("kin", x.kin(1, 1, 30, 1, true), 1);
        D.due("kin", x.kin(0, 1, 20, 0, false), 2);
        D.due("note", x.note(0, 2, 0, 0), 0);
        D.due("near", x.near(1, 2, 0, 0), 1);
        D.due("note", x.note(3, 2, 0, 5), 1);
        D.due("years", x.years(12), 12);
        D.due("told", x.told(2, 12, 2, 0, 1), 7);
        D.due("tell", tell(x, "bar come < 2; score sum(regret if can) + fare; pay means;"), 3);
        D.due("option", x.option(0, 12), 0);
        D.due("option", x.option(1, 20), 1);
        D.due("regret", x.regret(0, 0, 4), true);
        D.due("regret", x.regret(1, 0, 5), true);
        D.due("regret", x.regret(2, 1, 0), true);
        D.due("flight", x.flight(1, 0, 11, 3, 40), 0);
        D.due("travel", x.travel(0, 1), 40);
        D.due("score", x.score(0), 49);
        D.due("judged", x.judged(1, 0), 1);
        D.due("choice", x.choice(), 0);
        D.due("ring", x.ring(), 1);
        D.due("meet", x.meet(KinMeet.NONE), 2);
        D.due("guest", x.guest(2, true), true);
        D.due("room", x.room(2), 0);
        D.due("room", x.room(1), 1);
        D.due("bed", x.bed(), 0);
        D.due("bedded", x.bedded(1), 1);
        D.due("table", x.table(4), 0);
        D.due("meal", x.meal(), 3);
        D.due("receipt", x.receipt(0, 60), 60);
        D.due("owes", x.owes(1, 2), -30);
        D.due("settle", x.settle(), 2);
        D.due("payment", x.payment(0, 2), 30);
        D.due("end", x.end(), 0);
        D.due("branch", x.branch(0, 1), 12);
    }

    private static void lines() throws IOException {
        List<String> readme = Files.readAllLines(Path.of("README.md"));
        String here = Files.readString(Path.of("src/test/java/UseTest.java"));
        boolean inside = false;
        int seen = 0;
        for (String line : readme) {
            if (line.startsWith("```")) {
                inside = line.equals("```java");
            } else if (inside && !line.isBlank()) {
                D.due(line + " stands in UseTest", stands(line, here), true);
                seen++;
            }
        }
        D.due(seen + " lines, more than forty", seen > 40, true);
    }

    /** A call with its answer behind it stands as a row of example(), all else to the letter. */
    private static boolean stands(String line, String here) {
        int at = line.indexOf(";   // ");
        if (at < 0) {
            return here.contains(line.strip());
        }
        String answer = line.substring(at + 7).split("[: ]")[0];
        return here.contains(", " + line.substring(0, at) + ", " + answer + ");");
    }
}
