import java.util.ArrayDeque;
import java.util.ArrayList;
import java.util.Arrays;
import java.util.List;
import java.util.Random;
import java.util.TreeSet;

/** All promises: long runs of calls, drawn from fixed seeds, are answered as the model answers. */
final class RandomRunsTest {
    private static final int RUNS = 1500;
    /** So many calls leave some of the 512 for reading the disk. */
    private static final int CALLS = 420;
    private static final String[] NAMES = {"a", "b", "c", "d", "e", "abcdefg"};
    private static final int[] EDGES = {0, 1, 28, 31, 32, 60, 92, 124, 156, 188, 191, 192, 220, 223,
        224, 252, 284, 316, 700, 1180, 1183, 1184, 1208, 1209, 1215, 1216, -1, Integer.MAX_VALUE,
        Integer.MIN_VALUE};
    private static final String[] ENDINGS = {
        "create done", "create IllegalStateException", "create NoSuchElementException",
        "makeDirectory done", "makeDirectory IllegalStateException",
        "makeDirectory NoSuchElementException",
        "link done", "link IllegalStateException", "link NoSuchElementException",
        "link UnsupportedOperationException",
        "unlink done", "unlink NoSuchElementException", "unlink UnsupportedOperationException",
        "removeDirectory done", "removeDirectory NoSuchElementException",
        "removeDirectory UnsupportedOperationException",
        "removeDirectory IllegalArgumentException",
        "rename done", "rename IllegalStateException", "rename NoSuchElementException",
        "rename UnsupportedOperationException", "rename IllegalArgumentException",
        "write done", "write IllegalStateException", "write NoSuchElementException",
        "write UnsupportedOperationException", "write IllegalArgumentException",
        "read done", "read NoSuchElementException", "read UnsupportedOperationException",
        "read IllegalArgumentException",
        "truncate done", "truncate NoSuchElementException",
        "truncate UnsupportedOperationException", "truncate IllegalArgumentException",
        "stat done", "stat NoSuchElementException", "stat IllegalArgumentException",
        "spoil done", "check done", "count done", "format done",
    };
    private static final String[] PATH_CALLS = {"create", "makeDirectory", "link", "unlink",
        "removeDirectory", "rename", "write", "read", "truncate", "stat"};

    private final Random random;
    private final Model model = new Model();
    private final Played played = new Played();
    private final List<String> calls = new ArrayList<>();
    private final Paths typed = new Paths();
    private final ArrayDeque<String> plan = new ArrayDeque<>();
    private final List<String> paths = new ArrayList<>();
    private final int taste;

    private RandomRunsTest(int seed) {
        random = new Random(seed);
        taste = seed % 4;
        paths.add("/");
    }

    public static void main(String[] args) {
        TreeSet<String> seen = new TreeSet<>();
        for (int seed = 0; seed < RUNS; seed++) {
            new RandomRunsTest(seed).play(seed, seen);
        }
        // A drawing that never comes to an ending would look at nothing there.
        for (String ending : ENDINGS) {
            Run.same("runs come to " + ending, seen.contains(ending), true);
        }
        for (String call : PATH_CALLS) {
            Run.same("runs come to " + call + " on a disk that isn't clean",
                    seen.contains(call + " IllegalStateException, not clean"), true);
            Run.same("runs come to " + call + " of paths that calls before it left",
                    seen.contains(call + " done, of paths left"), true);
        }
        Run.end();
    }

    private void play(int seed, TreeSet<String> seen) {
        while (played.calls() < CALLS) {
            String call = draw();
            boolean wasClean = model.count(2) == 1;
            String want = Played.told(() -> modelCall(call));
            typed.take(call);
            String got = played.answer(call);
            calls.add(call);
            if (!got.equals(want)) {
                Run.same("run " + seed + " " + calls, got, want);
                return;
            }
            String ending = got.startsWith("throws.") ? got.substring("throws.".length()) : "done";
            String method = call.split(" ")[0];
            seen.add(method + " " + ending + (wasClean ? "" : ", not clean"));
            if (!call.contains("/")) {
                seen.add(method + " " + ending + ", of paths left");
            }
        }
        int[] image = Played.image(calls);
        Run.same("run " + seed + ": the disk behind " + calls,
                Arrays.equals(image, model.image()), true);
        Run.same("run " + seed + ": the terms", Terms.faults(image).toString(), "[]");
    }

    private String draw() {
        int kind = random.nextInt(100);
        if (plan.isEmpty() && random.nextInt(15) == 0) {
            plan();
        }
        if (!plan.isEmpty() && random.nextInt(4) > 0) {
            return plan.remove();
        }
        if (model.count(2) == 0 && kind < 50) {
            return "check " + (kind < 40);
        }
        // Some runs make many files, some make many names, some fill all the blocks.
        int shift = new int[] {0, 12, 30, 70}[taste];
        if (kind < 4 + shift) {
            return more();
        }
        kind = 5 + random.nextInt(95);
        if (kind < 20) {
            return "create " + remember(newPath());
        } else if (kind < 30) {
            return "makeDirectory " + remember(newPath());
        } else if (kind < 40) {
            return "link " + path() + " " + remember(newPath());
        } else if (kind < 48) {
            return "unlink " + path();
        } else if (kind < 54) {
            return "removeDirectory " + path();
        } else if (kind < 64) {
            return "rename " + path() + " " + remember(newPath());
        } else if (kind < 76) {
            return write();
        } else if (kind < 82) {
            return "read " + path() + " " + offset();
        } else if (kind < 87) {
            return "truncate " + path() + " " + offset();
        } else if (kind < 92) {
            return "stat " + path() + " " + (random.nextInt(7) - 1);
        } else if (kind < 94) {
            return "spoil " + (random.nextInt(4)) + " " + (random.nextInt(70) - 2) + " "
                    + (random.nextInt(20) == 0 ? 256 : random.nextInt(5));
        } else if (kind < 96) {
            return "check " + random.nextBoolean();
        } else if (kind < 99 || random.nextInt(4) > 0) {
            return "count " + (random.nextInt(5) - 1);
        }
        return "format";
    }

    /** Draws calls that leave paths for later ones, with whatever is drawn between them. */
    private void plan() {
        String method = PATH_CALLS[random.nextInt(PATH_CALLS.length)];
        boolean takesB = method.equals("link") || method.equals("rename");
        if (takesB || random.nextInt(4) == 0) {
            plan.add("text " + path());
            plan.add("keep");
        }
        plan.add("text " + (takesB ? remember(newPath()) : path()));
        if (random.nextInt(6) == 0) {
            plan.add("type " + (random.nextBoolean() ? (int) '/' : 'a' + random.nextInt(3)));
        }
        plan.add(withNumbers(method));
    }

    private String withNumbers(String method) {
        switch (method) {
            case "write":
                return "write " + offset() + " 8 " + random.nextLong();
            case "read":
            case "truncate":
                return method + " " + offset();
            case "stat":
                return "stat " + random.nextInt(5);
            default:
                return method;
        }
    }

    /** A call that makes the disk fuller, as the run's taste is. */
    private String more() {
        if (taste == 1) {
            return random.nextBoolean() ? "create " + remember(newPath())
                    : "makeDirectory " + remember(newPath());
        } else if (taste == 2) {
            return "link " + path() + " " + remember("/" + (char) ('a' + random.nextInt(26)));
        }
        String file = remember(random.nextBoolean() ? "/a" : "/b");
        int offset = 28 + 64 * random.nextInt(19);
        return random.nextInt(12) == 0 ? "create " + file
                : "write " + file + " " + offset + " 8 " + random.nextLong();
    }

    private String write() {
        int n = random.nextInt(12) == 0 ? random.nextInt(12) - 1 : 8 - random.nextInt(3);
        int offset = random.nextInt(3) > 0 ? 28 + 32 * random.nextInt(37) : offset();
        return "write " + path() + " " + offset + " " + n + " " + random.nextLong();
    }

    private int offset() {
        return random.nextInt(3) > 0 ? EDGES[random.nextInt(EDGES.length)] : random.nextInt(1230);
    }

    private String path() {
        if (random.nextInt(40) == 0) {
            return new String[] {"/A", "/a/", "//", "/abcdefgh", "/a//b"}[random.nextInt(5)];
        }
        return random.nextInt(15) == 0 ? newPath() : paths.get(random.nextInt(paths.size()));
    }

    private String newPath() {
        String above = paths.get(random.nextInt(paths.size()));
        String path = (above.equals("/") ? "" : above) + "/" + NAMES[random.nextInt(NAMES.length)];
        return path.length() > 16 ? "/" + NAMES[random.nextInt(NAMES.length)] : path;
    }

    private String remember(String path) {
        if (!paths.contains(path) && paths.size() < 20) {
            paths.add(path);
        }
        return path;
    }

    private Object modelCall(String call) {
        typed.typeFor(call);
        String[] words = call.replaceAll(" /\\S*", "").split(" ");
        switch (words[0]) {
            case "format":
                model.format();
                return "done";
            case "type":
                return typed.type((char) number(words, 1));
            case "text":
                return typed.text(call.substring("text ".length()));
            case "keep":
                return typed.keep();
            case "create":
                return model.create(typed.a());
            case "makeDirectory":
                return model.makeDirectory(typed.a());
            case "link":
                return model.link(typed.b(), typed.a());
            case "unlink":
                return model.unlink(typed.a());
            case "removeDirectory":
                return model.removeDirectory(typed.a());
            case "rename":
                return model.rename(typed.b(), typed.a());
            case "write":
                return model.write(typed.a(), number(words, 1), number(words, 2),
                        Long.parseLong(words[3]));
            case "read":
                return model.read(typed.a(), number(words, 1));
            case "truncate":
                return model.truncate(typed.a(), number(words, 1));
            case "stat":
                return model.stat(typed.a(), number(words, 1));
            case "spoil":
                return model.spoil(number(words, 1), number(words, 2), number(words, 3));
            case "check":
                return model.check(words[1].equals("true"));
            case "count":
                return model.count(number(words, 1));
            default:
                throw new AssertionError(words[0]);
        }
    }

    private static int number(String[] words, int k) {
        return Integer.parseInt(words[k]);
    }
}
