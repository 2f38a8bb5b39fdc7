import java.util.ArrayList;
import java.util.Arrays;
import java.util.List;

/**
 * Runs of calls on new objects, in rows "call -> the answer that is due". Behind every row the
 * whole disk is looked at: a call that throws or only looks must not have changed it, and while it
 * is clean it must be as the document's terms say.
 */
final class Run {
    private static final List<String> LOOKS = List.of("type", "text", "keep", "read", "stat",
            "byteAt", "bytes", "count");

    private static int rows;
    private static int wrong;

    private Run() {
    }

    static void due(String title, String told) {
        Played played = new Played();
        List<String> calls = new ArrayList<>();
        int[] before = Played.image(calls);
        for (String row : told.strip().split("\n")) {
            String[] halves = row.split("->");
            String call = halves[0].strip();
            String answer = played.answer(call);
            same(title + ": " + call, answer, halves[1].strip());
            calls.add(call);
            int[] after = Played.image(calls);
            if (answer.startsWith("throws") || onlyLooks(call)) {
                same(title + ": " + call + " left the disk alone", Arrays.equals(before, after),
                        true);
            }
            for (String fault : Terms.faults(after)) {
                same(title + ": the disk after " + call, fault, "");
            }
            before = after;
        }
        same(title + ": at most 512 calls", played.calls() <= Played.CALLS_MAX, true);
    }

    private static boolean onlyLooks(String call) {
        return call.equals("check false") || LOOKS.contains(call.split(" ")[0]);
    }

    static void same(String what, Object got, Object want) {
        rows++;
        if (!got.equals(want)) {
            wrong++;
            System.out.println(what + ": answered " + got + ", due is " + want);
        }
    }

    /** Says how it went; ends the program with 1 if anything was not as due. */
    static void end() {
        System.out.println(rows + " looks, " + wrong + " not as due");
        if (wrong > 0 || rows == 0) {
            System.exit(1);
        }
    }
}
