import java.util.List;
import java.util.function.Supplier;

/** A new object on which calls are made that are told as texts. */
final class Played {
    /** The document promises nothing of later calls. */
    static final int CALLS_MAX = 512;

    private final InodeDisk disk = new InodeDisk();
    private int calls;

    int calls() {
        return calls;
    }

    /**
     * Makes a call such as "create /a", "link /b /a" (path B first), "write /a 0 8 -1" or "check
     * true", and types its paths before, if it tells any. The answer as a text.
     */
    String answer(String call) {
        return told(() -> answer(call.trim().split(" +")));
    }

    /** What a call answers or throws, as a text. */
    static String told(Supplier<?> call) {
        try {
            return "" + call.get();
        } catch (RuntimeException e) {
            return "throws." + e.getClass().getSimpleName();
        }
    }

    private String answer(String[] words) {
        int paths = typePaths(words);
        calls++;
        switch (words[0]) {
            case "format":
                disk.format();
                return "done";
            case "type":
                return "" + disk.type((char) number(words, 1));
            case "text":
                calls--;
                return "" + text(words[1]);
            case "keep":
                return "" + disk.keep();
            case "create":
                return "" + disk.create();
            case "makeDirectory":
                return "" + disk.makeDirectory();
            case "link":
                return "" + disk.link();
            case "unlink":
                return "" + disk.unlink();
            case "removeDirectory":
                return "" + disk.removeDirectory();
            case "rename":
                return "" + disk.rename();
            case "write":
                return "" + disk.write(number(words, paths + 1), number(words, paths + 2),
                        Long.parseLong(words[paths + 3]));
            case "read":
                return "" + disk.read(number(words, paths + 1));
            case "truncate":
                return "" + disk.truncate(number(words, paths + 1));
            case "stat":
                return "" + disk.stat(number(words, paths + 1));
            case "spoil":
                return "" + disk.spoil(number(words, 1), number(words, 2), number(words, 3));
            case "check":
                return "" + disk.check(words[1].equals("true"));
            case "byteAt":
                return "" + disk.byteAt(number(words, 1));
            case "bytes":
                calls--;
                return bytes(number(words, 1), number(words, 2));
            case "count":
                return "" + disk.count(number(words, 1));
            default:
                throw new AssertionError("no such call: " + words[0]);
        }
    }

    /** Types the paths that a call tells; how many there are. */
    private int typePaths(String[] words) {
        int paths = 0;
        if (words[0].equals("text")) {
            return paths;
        }
        while (paths + 1 < words.length && words[paths + 1].startsWith("/")) {
            paths++;
        }
        for (int k = 1; k <= paths; k++) {
            if (k == 2) {
                calls++;
                disk.keep();
            }
            text(words[k]);
        }
        return paths;
    }

    private int text(String text) {
        int length = 0;
        for (char c : text.toCharArray()) {
            calls++;
            length = disk.type(c);
        }
        return length;
    }

    private String bytes(int from, int n) {
        StringBuilder bytes = new StringBuilder();
        for (int i = from; i < from + n; i++) {
            calls++;
            bytes.append(i == from ? "" : " ").append(disk.byteAt(i));
        }
        return bytes.toString();
    }

    private static int number(String[] words, int k) {
        return Integer.parseInt(words[k]);
    }

    /** The whole disk after some calls, read from as many new objects as 512 calls each need. */
    static int[] image(List<String> calls) {
        int[] image = new int[2048];
        int at = 0;
        while (at < image.length) {
            Played played = new Played();
            for (String call : calls) {
                played.answer(call);
            }
            if (played.calls >= CALLS_MAX) {
                throw new AssertionError("the run is too long to read the disk behind it");
            }
            for (int n = CALLS_MAX - played.calls; n > 0 && at < image.length; n--) {
                image[at] = played.disk.byteAt(at);
                at++;
            }
        }
        return image;
    }
}
