import java.io.IOException;
import java.nio.file.Files;
import java.nio.file.Path;
import java.util.ArrayList;
import java.util.List;
import java.util.regex.Matcher;
import java.util.regex.Pattern;

/** The calls that README.md shows, read from it and made, with the answers that it tells; and that it tells of each call. */
public final class ReadmeTest {
    private static final Pattern CALL = Pattern.compile("(?m)^x\\.(\\w+)\\(([-0-9, ]*)\\);\\s*// (-?\\d+): ");
    private static final Pattern TEXT = Pattern.compile("for \\(char letter : \"([^\"]*)\"\\.toCharArray\\(\\)\\)");

    public static void main(String[] args) throws IOException {
        String readme = Files.readString(Path.of("README.md"));
        RankedEchoes x = new RankedEchoes();
        Due.is("cells of a new row", x.count(0), 20);
        Matcher text = TEXT.matcher(readme);
        Due.holds("a text is shown", text.find());
        Due.write(x, text.group(1));
        int shown = 0;
        Matcher calls = CALL.matcher(readme);
        while (calls.find()) {
            shown++;
            String call = calls.group(1) + "(" + calls.group(2) + ")";
            Due.is(call, answer(x, calls.group(1), numbers(calls.group(2))), Long.parseLong(calls.group(3)));
        }
        Due.is("calls with answers", shown, Pattern.compile("(?m)^x\\.").matcher(readme).results().count());
        Due.drawn("the row shown", Due.laid(text.group(1)), shownRow(readme));
        eachCall(readme);
        Due.end();
    }

    private static String shownRow(String readme) {
        Matcher row = Pattern.compile("\\^, of \"([^\"]*)\"").matcher(readme);
        return row.find() ? row.group(1) : "";
    }

    private static List<Integer> numbers(String list) {
        List<Integer> all = new ArrayList<>();
        for (String number : list.isBlank() ? new String[0] : list.split(", ")) {
            all.add(Integer.parseInt(number));
        }
        return all;
    }

    private static long answer(RankedEchoes x, String name, List<Integer> n) {
        return switch (name) {
            case "fault" -> x.fault();
            case "lay" -> x.lay();
            case "cell" -> x.cell(n.get(0), n.get(1));
            case "hides" -> x.hides(n.get(0), n.get(1));
            case "bunch" -> x.bunch(n.get(0), n.get(1));
            case "drawn" -> x.drawn(n.get(0));
            case "enough" -> x.enough(n.get(0));
            case "odds" -> x.odds(n.get(0));
            case "leave" -> x.leave(n.get(0), n.get(1));
            case "undo" -> x.undo();
            default -> Long.MIN_VALUE;
        };
    }

    private static void eachCall(String readme) {
        String calls = "write(letter) wipe() fault() lay() power(i,v) leave(i,is) look(what,v) mode(m) slide(v) undo() "
            + "cell(i,what) ranked(i,side,k) hides(i,j) bunch(n,what) enough(n) noise(v) odds(part) factor(a,b) drawn(k) "
            + "count(what)";
        for (String call : calls.split(" ")) {
            Due.holds(call + " is told of", readme.contains("| `" + call.replace(",", ", ") + "`"));
        }
    }
}
