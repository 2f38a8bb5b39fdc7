/** Promises 3 and 4 (type, keep), and what the terms say of paths. */
final class PathsTest {
    private static final String FORTY = "/aaaaaaa/bbbbbbb/ccccccc/ddddddd/eeeeeee";
    private static final String[] NO_PATHS = {"a", "a/b", "/A", "/Z", "/a/", "//", "//a", "/a//b",
        "/abcdefgh", "/d/abcdefgh", "/.", "/..", "/d/.", "/d/..", "/d/../d", "/`", "/{", "/d/a1",
        "/d/", "/\u0161", "/\u00e9", "/\0", "/d\0", "/\u0161/a", "\u012fa", "/d\u012fa", "/\uffff",
        "\\a", " /a", "/a ", "/d/@", "///", "/d/a/", "/d//a", "/" + "a".repeat(39)};

    public static void main(String[] args) {
        typing();
        keeping();
        longPaths();
        noPaths();
        leading();
        emptyThen();
        emptyWhenNotClean();
        notTaken();
        Run.end();
    }

    private static void typing() {
        Run.due("any character is typed", """
                type 47 -> 1
                type 0 -> 2
                type 65535 -> 3
                type 97 -> 4
                keep -> 4
                """);
        Run.due("the 39th, the 40th and the 41st character", "text "
                + "a".repeat(39) + " -> 39\n" + """
                type 97 -> 40
                type 97 -> -1
                type 97 -> -1
                stat 0 -> throws.NoSuchElementException
                type 97 -> 1
                """);
        Run.due("40 characters at most", "text " + "/".repeat(40) + " -> 40\n" + """
                type 97 -> -1
                type 47 -> -1
                keep -> 40
                type 97 -> 1
                """);
    }

    private static void keeping() {
        Run.due("keep makes A empty", """
                text /abc -> 4
                keep -> 4
                keep -> 0
                type 47 -> 1
                """);
        Run.due("keep takes the place of the old path B", """
                create /long -> 2
                create /b -> 3
                text /long -> 5
                keep -> 5
                text /b -> 2
                keep -> 2
                text /c -> 2
                link -> 2
                stat /b 2 -> 2
                stat /long 2 -> 1
                """);
        Run.due("an empty path is kept too", """
                create /b -> 2
                text /b -> 2
                keep -> 2
                keep -> 0
                text /c -> 2
                link -> throws.NoSuchElementException
                """);
        Run.due("methods that take A alone leave B", """
                create /b -> 2
                text /b -> 2
                keep -> 2
                create /c -> 3
                stat /c 0 -> 3
                stat /x 0 -> throws.NoSuchElementException
                text /d -> 2
                link -> 2
                stat /d 0 -> 2
                """);
    }

    private static void longPaths() {
        String directories = """
                makeDirectory /aaaaaaa -> 2
                makeDirectory /aaaaaaa/bbbbbbb -> 3
                makeDirectory /aaaaaaa/bbbbbbb/ccccccc -> 4
                makeDirectory /aaaaaaa/bbbbbbb/ccccccc/ddddddd -> 5
                """;
        Run.due("a path of 40 characters", directories
                + "create " + FORTY + " -> 6\nstat " + FORTY + " 0 -> 6\n");
        Run.due("the 41st character is not in the path", directories
                + "text " + FORTY + "/ -> -1\ncreate -> 6\nstat " + FORTY + " 0 -> 6\n");
        Run.due("a path B of 40 characters", directories + "create /f -> 6\nrename /f " + FORTY
                + " -> 6\nlink " + FORTY + " /g -> 2\nrename " + FORTY + " /h -> 6\n");
        Run.due("a character that had no place is not in the next path", directories
                + "text " + FORTY + "zz -> -1\nkeep -> 40\ntext /g -> 2\n"
                + "rename -> throws.NoSuchElementException\ncreate /g -> 6\n");
        StringBuilder deep = new StringBuilder();
        String path = "";
        for (int level = 2; level <= 13; level++) {
            path += "/d";
            deep.append("makeDirectory " + path + " -> " + level + "\n");
        }
        Run.due("many names", deep + "create " + path + "/f -> 14\nstat " + path + "/f 0 -> 14\n"
                + "stat " + path + " 2 -> 2\nstat /d 2 -> 3\n");
    }

    private static void noPaths() {
        for (String path : NO_PATHS) {
            String there = "create /a -> 2\nmakeDirectory /d -> 3\n";
            StringBuilder rows = new StringBuilder(there);
            for (String call : new String[] {"create", "makeDirectory", "stat 0", "unlink",
                "removeDirectory", "write 0 1 1", "read 0", "truncate 0"}) {
                rows.append(typed(path) + call + " -> throws.NoSuchElementException\n");
            }
            Run.due("no path A " + path, rows.toString());
            rows = new StringBuilder(there);
            for (String call : new String[] {"link", "rename"}) {
                rows.append(typed(path) + "keep -> " + path.length() + "\ntext /n -> 2\n" + call
                        + " -> throws.NoSuchElementException\n");
                rows.append("text /a -> 2\nkeep -> 2\n" + typed(path) + call
                        + " -> throws.NoSuchElementException\n");
            }
            Run.due("no path A or B " + path, rows.toString());
        }
    }

    private static String typed(String path) {
        StringBuilder rows = new StringBuilder();
        for (int i = 0; i < path.length(); i++) {
            rows.append("type " + (int) path.charAt(i) + " -> " + (i + 1) + "\n");
        }
        return rows.toString();
    }

    private static void leading() {
        Run.due("a path leads by its names", """
                makeDirectory /d -> 2
                create /d/f -> 3
                create /f -> 4
                create /de -> 5
                stat /d/f 0 -> 3
                stat /f 0 -> 4
                stat /de 0 -> 5
                stat / 0 -> 1
                stat /e 0 -> throws.NoSuchElementException
                stat /d/e 0 -> throws.NoSuchElementException
                stat /ff 0 -> throws.NoSuchElementException
                stat /d/f/g 0 -> throws.NoSuchElementException
                stat /e/f 0 -> throws.NoSuchElementException
                create /f/g -> throws.NoSuchElementException
                create /e/g -> throws.NoSuchElementException
                create / -> throws.NoSuchElementException
                makeDirectory / -> throws.NoSuchElementException
                unlink /f -> 0
                stat /f 0 -> throws.NoSuchElementException
                """);
        Run.due("a name is the whole name, of one letter to seven", """
                create /abcdefg -> 2
                stat /abcdef 0 -> throws.NoSuchElementException
                stat /bcdefg 0 -> throws.NoSuchElementException
                create /abcdef -> 3
                create /a -> 4
                create /z -> 5
                stat /abcdefg 0 -> 2
                stat /abcdef 0 -> 3
                stat /a 0 -> 4
                stat /z 0 -> 5
                unlink /abcdef -> 0
                stat /abcdefg 0 -> 2
                """);
        Run.due("a way through nothing or through a file leads nowhere on a full disk too",
                Rows.twoFiles(14) + """
                stat /x/y 0 -> throws.NoSuchElementException
                stat /a/y 0 -> throws.NoSuchElementException
                unlink /x/y/z -> throws.NoSuchElementException
                removeDirectory /a/y -> throws.NoSuchElementException
                read /a/a 0 -> throws.NoSuchElementException
                rename /a/b /b -> throws.NoSuchElementException
                """);
        Run.due("a free slot leads nowhere, whatever its name was", """
                makeDirectory /d -> 2
                create /d/f -> 3
                rename /d/f /d/g -> 3
                stat /d/f 0 -> throws.NoSuchElementException
                unlink /d/g -> 0
                stat /d/g 0 -> throws.NoSuchElementException
                removeDirectory /d -> 1
                stat /d 0 -> throws.NoSuchElementException
                stat /d/g 0 -> throws.NoSuchElementException
                create /d/g -> throws.NoSuchElementException
                """);
    }

    private static void emptyThen() {
        for (String call : new String[] {"create", "makeDirectory", "unlink", "removeDirectory",
            "write 0 1 1", "read 0", "truncate 0", "stat 0", "link", "rename"}) {
            Run.due("A is empty after a refused " + call, "text /x/y -> 4\n" + call
                    + " -> throws.NoSuchElementException\ntype 47 -> 1\n");
        }
        for (String call : new String[] {"create -> 3", "makeDirectory -> 3", "link -> 2",
            "rename -> 2"}) {
            Run.due("A is empty after " + call, """
                    create /f -> 2
                    text /f -> 2
                    keep -> 2
                    text /n -> 2
                    """ + call + "\nkeep -> 0\n");
        }
        for (String call : new String[] {"unlink -> 0", "write 0 1 1 -> 1", "read 0 -> 0",
            "truncate 5 -> 0", "stat 0 -> 2", "stat 5 -> throws.IllegalArgumentException",
            "removeDirectory -> throws.UnsupportedOperationException"}) {
            Run.due("A is empty after " + call, "create /f -> 2\ntext /f -> 2\n" + call
                    + "\nkeep -> 0\n");
        }
        Run.due("B is empty after a link", """
                create /f -> 2
                link /f /g -> 2
                text /h -> 2
                link -> throws.NoSuchElementException
                """);
        Run.due("B is empty after a rename", """
                create /f -> 2
                rename /f /g -> 2
                create /f -> 3
                text /h -> 2
                rename -> throws.NoSuchElementException
                """);
        for (String call : new String[] {"link", "rename"}) {
            Run.due("B is empty after a refused " + call, "create /f -> 2\n"
                    + call + " /f /x/y -> throws.NoSuchElementException\n"
                    + "text /g -> 2\n" + call + " -> throws.NoSuchElementException\n");
        }
    }

    private static void emptyWhenNotClean() {
        for (String call : new String[] {"create", "makeDirectory", "unlink", "removeDirectory",
            "write 0 1 1", "read 0", "truncate 0", "stat 0", "link", "rename"}) {
            Run.due("not clean: " + call, "create /f -> 2\nspoil 0 9 0 -> true\n"
                    + "text /f -> 2\nkeep -> 2\ntext /g -> 2\n" + call
                    + " -> throws.IllegalStateException\nkeep -> 0\n");
            Run.due("not clean goes before no path: " + call, "spoil 0 9 0 -> true\n" + call
                    + " -> throws.IllegalStateException\n");
        }
        for (String call : new String[] {"link", "rename"}) {
            Run.due("B is empty when the disk was not clean: " + call, "create /f -> 2\n"
                    + "spoil 0 9 0 -> true\n" + call + " /f /g -> throws.IllegalStateException\n"
                    + "check true -> 1\ntext /g -> 2\n" + call
                    + " -> throws.NoSuchElementException\n");
        }
    }

    private static void notTaken() {
        for (String call : new String[] {"spoil 0 9 0 -> true", "spoil 1 9 0 -> true",
            "spoil 2 2 7 -> true", "spoil 3 2 7 -> false", "spoil 0 16 0 -> false",
            "spoil 2 9 1 -> false", "check false -> 0", "check true -> 0", "byteAt 0 -> 77",
            "byteAt -1 -> -1", "count 0 -> 12", "count 1 -> 53", "count 2 -> 1", "count 3 -> -1"}) {
            Run.due("both paths are as they were after " + call, "create /f -> 2\n"
                    + "makeDirectory /d -> 3\ntext /f -> 2\nkeep -> 2\ntext /d/ -> 3\n" + call
                    + "\ntype 103 -> 4\nkeep -> 4\n");
            Run.due("both paths are of use after " + call, "create /f -> 2\n"
                    + "makeDirectory /d -> 3\ntext /f -> 2\nkeep -> 2\ntext /d/g -> 4\n" + call
                    + "\n" + mend(call) + "link -> 2\nstat /d/g 0 -> 2\n");
        }
    }

    private static String mend(String call) {
        return call.endsWith("true") ? "check true -> 1\n" : "";
    }
}
