import java.util.ArrayList;
import java.util.Arrays;
import java.util.List;

/**
 * Runs of calls on new objects, in rows "call -> the answer that is due". Behind every row the
 * whole disk is looked at: a call that throws or only looks must not have changed it, and it must
 * be as the document's terms say. So are the paths: a call that takes them must have left them
 * empty, whatever came of it, and any other must have left them alone.
 */
final class Run {
    private static final List<String> LOOKS = List.of("type", "text", "keep", "read", "stat",
            "byteAt", "bytes", "count");

    private static int rows;
    private static int wrong;

    private Run() {
    }

    static void due(String title, String told) {
        Played played = new Played();
        Paths paths = new Paths();
        List<String> calls = new ArrayList<>();
        int[] before = Played.image(calls);
        for (String row : told.strip().split("\n")) {
            String[] halves = row.split("->");
            String call = halves[0].strip();
            String answer = played.answer(call);
            same(title + ": " + call, answer, halves[1].strip());
            calls.add(call);
            paths.note(call);
            int[] after = Played.image(calls);
            if (answer.startsWith("throws") || onlyLooks(call)) {
                same(title + ": " + call + " left the disk alone", Arrays.equals(before, after),
                        true);
            }
            for (String fault : Terms.faults(after)) {
                same(title + ": the disk after " + call, fault, "");
            }
            paths(title + ": " + call, calls, paths);
            before = after;
        }
        same(title + ": at most 512 calls", played.calls() <= Played.CALLS_MAX, true);
    }

    private static boolean onlyLooks(String call) {
        return call.equals("check false") || LOOKS.contains(call.split(" ")[0]);
    }

    /** Holds the paths behind some calls against the same paths typed anew. */
    private static void paths(String title, List<String> calls, Paths due) {
        same(title + ": the length of path A", last(calls, List.of("keep")),
                "" + due.a().length());
        List<String> typedA = new ArrayList<>(List.of("check true", "stat 0"));
        typedA.addAll(typed(due.a()));
        typedA.add("stat 0");
        same(title + ": path A", last(calls, List.of("check true", "stat 0")),
                last(calls, typedA));
        List<String> typedB = new ArrayList<>(List.of("check true", "stat 0"));
        typedB.addAll(typed(due.b()));
        typedB.addAll(List.of("keep", "text /zzzzzzz", "rename"));
        same(title + ": path B",
                last(calls, List.of("check true", "stat 0", "text /zzzzzzz", "rename")),
                last(calls, typedB));
        onNewDisk(title + ": path A on a new disk", calls, "keep", due.a());
        onNewDisk(title + ": path B on a new disk", calls, "stat 0", due.b());
    }

    /**
     * Looks at a path on a disk that has just what it leads to, as on the run's own disk it may
     * lead to nothing, and then couldn't be told from an empty one. The first call makes the path
     * B, or makes A empty. Left out where what it leads to can't be made in 512 calls.
     */
    private static void onNewDisk(String title, List<String> calls, String first, String path) {
        List<String> all = new ArrayList<>(calls);
        all.addAll(List.of(first, "format"));
        String answer = path.equals("/") ? "throws.UnsupportedOperationException"
                : "throws.NoSuchElementException";
        if (path.matches("(/[a-z]{1,7})+")) {
            int inode = 1;
            for (int end = path.indexOf('/', 1); end > 0; end = path.indexOf('/', end + 1)) {
                all.add("makeDirectory " + path.substring(0, end));
                inode++;
            }
            all.add("create " + path);
            answer = "" + (inode + 1);
        }
        all.addAll(List.of("text /zzzzzzz", "rename"));
        Played played = new Played();
        String last = "";
        for (String call : all) {
            last = played.answer(call);
        }
        if (played.calls() <= Played.CALLS_MAX) {
            same(title, last, answer);
        }
    }

    private static List<String> typed(String path) {
        List<String> calls = new ArrayList<>();
        for (char c : path.toCharArray()) {
            calls.add("type " + (int) c);
        }
        return calls;
    }

    /** What the last call answers when some more are made behind a run, on a new object. */
    private static String last(List<String> calls, List<String> more) {
        Played played = new Played();
        for (String call : calls) {
            played.answer(call);
        }
        String answer = "";
        for (String call : more) {
            answer = played.answer(call);
        }
        same("the looks behind " + calls + " make at most 512 calls",
                played.calls() <= Played.CALLS_MAX, true);
        return answer;
    }

    static void same(String what, Object got, Object want) {
        rows++;
        if (!got.equals(want)) {
            wrong++;
            System.out.println(what + ": answered " + got + ", due is " + want);
        }
    }

    /** Says how it went; ends the program with 1 if anything was not as due. */
    static void end() {
        System.out.println(rows + " looks, " + wrong + " not as due");
        if (wrong > 0 || rows == 0) {
            System.exit(1);
        }
    }
}
