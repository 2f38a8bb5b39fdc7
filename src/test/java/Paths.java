import java.util.List;

/** Paths A and B as they are due to be, told from the calls alone. */
final class Paths {
    private static final int MAX = 40;
    private static final List<String> TAKE_A = List.of("create", "makeDirectory", "link", "unlink",
            "removeDirectory", "rename", "write", "read", "truncate", "stat");
    private static final List<String> TAKE_B = List.of("link", "rename");

    private String a = "";
    private String b = "";

    String a() {
        return a;
    }

    String b() {
        return b;
    }

    int type(char c) {
        if (a.length() == MAX) {
            return -1;
        }
        a += c;
        return a.length();
    }

    int text(String text) {
        int length = 0;
        for (char c : text.toCharArray()) {
            length = type(c);
        }
        return length;
    }

    int keep() {
        b = a;
        a = "";
        return b.length();
    }

    /** Types the paths that a call tells, with a keep before the second one. */
    void typeFor(String call) {
        String[] words = call.split(" +");
        if (!TAKE_A.contains(words[0])) {
            return;
        }
        for (int k = 1; k < words.length && words[k].startsWith("/"); k++) {
            if (k == 2) {
                keep();
            }
            text(words[k]);
        }
    }

    /** Makes empty what a call takes. */
    void take(String call) {
        String method = call.split(" +")[0];
        if (TAKE_A.contains(method)) {
            a = "";
        }
        if (TAKE_B.contains(method)) {
            b = "";
        }
    }

    /** What a whole call does to the paths. */
    void note(String call) {
        String[] words = call.split(" +");
        switch (words[0]) {
            case "type":
                type((char) Integer.parseInt(words[1]));
                break;
            case "text":
                text(words[1]);
                break;
            case "keep":
                keep();
                break;
            default:
                typeFor(call);
                take(call);
        }
    }
}
