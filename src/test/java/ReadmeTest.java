import java.io.IOException;
import java.nio.file.Files;
import java.nio.file.Path;
import java.util.ArrayList;
import java.util.List;

/** The update that README.md tells, and that each line of it there names the answer that comes. */
public final class ReadmeTest {
    private static final Check CHECK = new Check("ReadmeTest");

    public static void main(String[] args) throws IOException {
        List<String> told = toldCalls();
        CHECK.due("the first line makes an object", told.remove(0).equals("SwapLoader x = new SwapLoader();"), true);
        SwapLoader x = new SwapLoader();
        dueNext(told, "x.factory(7, 96, 5);", String.valueOf(x.factory(7, 96, 5)), "true");
        dueNext(told, "x.boot();", String.valueOf(x.boot()), "7");
        dueNext(told, "x.begin(8, 96);", String.valueOf(x.begin(8, 96)), "4");
        dueNext(told, "x.feed(0x3F0A80L, 3);", String.valueOf(x.feed(0x3F0A80L, 3)), "69");
        CHECK.due("the byte that was added", x.byteAt(Check.NEXT + 4), 10);
        dueNext(told, "x.feed(0x3FL, 1);", String.valueOf(x.feed(0x3FL, 1)), "96");
        dueNext(told, "x.request();", String.valueOf(x.request()), "1");
        dueNext(told, "x.cut(77);", String.valueOf(x.cut(77)), "true");
        dueNext(told, "x.boot();", String.valueOf(x.boot()), "-2");
        CHECK.due("in the middle of the change", x.state(4) > 0 && x.state(4) < 18, true);
        dueNext(told, "x.boot();", String.valueOf(x.boot()), "8");
        dueNext(told, "x.confirm();", String.valueOf(x.confirm()), "1");
        dueNext(told, "x.boot();", String.valueOf(x.boot()), "8");
        CHECK.due("another patch", x.begin(9, 20), 4);
        CHECK.due("lines that no call was made for", told.size(), 0);
        CHECK.end();
    }

    private static void dueNext(List<String> told, String call, String got, String want) {
        CHECK.due(call + " answers " + want, got.equals(want), true);
        String line = told.isEmpty() ? "" : told.remove(0);
        CHECK.due("README.md tells " + call + " and " + want,
            line.startsWith(call) && line.substring(call.length()).strip().startsWith("// " + want + ":"), true);
    }

    private static List<String> toldCalls() throws IOException {
        String text = Files.readString(Path.of("README.md"));
        int from = text.indexOf("```java\n") + "```java\n".length();
        String block = text.substring(from, text.indexOf("```", from));
        return new ArrayList<>(block.lines().toList());
    }
}
