/**
 * Which exception a call ends by where several hold at once. That nothing has changed then but the
 * paths, that those which the call takes are empty, and that path B stays where a call takes A
 * alone, is looked at behind every row (see Run).
 */
final class RefusalsTest {
    /** A file, a directory that isn't empty, and a path B that calls with A alone must leave. */
    private static final String TREE = """
            create /f -> 2
            makeDirectory /d -> 3
            create /d/e -> 4
            text /f -> 2
            keep -> 2
            """;
    private static final String SPOILED = TREE + "spoil 1 40 0 -> true\n";

    public static void main(String[] args) {
        create();
        makeDirectory();
        link();
        unlink();
        removeDirectory();
        rename();
        renameWhereMuchHolds();
        write();
        writeWithoutBlocks();
        read();
        truncate();
        stat();
        Run.end();
    }

    private static void create() {
        Run.due("create on a disk that isn't clean", SPOILED + """
                create /n -> throws.IllegalStateException
                create /f -> throws.IllegalStateException
                create / -> throws.IllegalStateException
                create /x/n -> throws.IllegalStateException
                create /f/n -> throws.IllegalStateException
                create -> throws.IllegalStateException
                """);
        Run.due("no new name goes before the name that is there", TREE + """
                create / -> throws.NoSuchElementException
                create /f/e -> throws.NoSuchElementException
                create /f -> throws.IllegalStateException
                create /d -> throws.IllegalStateException
                create /d/e -> throws.IllegalStateException
                """);
        Run.due("no new name goes before no inode", Rows.files("", 'a', 14, 2) + """
                create / -> throws.NoSuchElementException
                create /x/n -> throws.NoSuchElementException
                create /a/n -> throws.NoSuchElementException
                create /z -> throws.IllegalStateException
                create /a -> throws.IllegalStateException
                """);
        Run.due("no new name goes before no room", Rows.twoFiles(14) + """
                create / -> throws.NoSuchElementException
                create /a/n -> throws.NoSuchElementException
                create /n -> throws.IllegalStateException
                create /a -> throws.IllegalStateException
                """);
    }

    private static void makeDirectory() {
        Run.due("makeDirectory on a disk that isn't clean", SPOILED + """
                makeDirectory /n -> throws.IllegalStateException
                makeDirectory /d -> throws.IllegalStateException
                makeDirectory / -> throws.IllegalStateException
                makeDirectory /x/n -> throws.IllegalStateException
                makeDirectory /f/n -> throws.IllegalStateException
                makeDirectory -> throws.IllegalStateException
                """);
        Run.due("no new name goes before the name that is there", TREE + """
                makeDirectory / -> throws.NoSuchElementException
                makeDirectory /f/e -> throws.NoSuchElementException
                makeDirectory /f -> throws.IllegalStateException
                makeDirectory /d -> throws.IllegalStateException
                makeDirectory /d/e -> throws.IllegalStateException
                """);
        Run.due("no new name goes before no inode", Rows.files("", 'a', 14, 2) + """
                makeDirectory / -> throws.NoSuchElementException
                makeDirectory /x/n -> throws.NoSuchElementException
                makeDirectory /a/n -> throws.NoSuchElementException
                makeDirectory /z -> throws.IllegalStateException
                makeDirectory /a -> throws.IllegalStateException
                """);
        Run.due("no new name goes before no block", Rows.twoFiles(14) + """
                makeDirectory / -> throws.NoSuchElementException
                makeDirectory /a/n -> throws.NoSuchElementException
                makeDirectory /n -> throws.IllegalStateException
                makeDirectory /a -> throws.IllegalStateException
                """);
    }

    private static void link() {
        Run.due("link on a disk that isn't clean", SPOILED + """
                link /f /n -> throws.IllegalStateException
                link /f /d -> throws.IllegalStateException
                link /d /n -> throws.IllegalStateException
                link /d /x/n -> throws.IllegalStateException
                link /x /n -> throws.IllegalStateException
                link /f / -> throws.IllegalStateException
                link -> throws.IllegalStateException
                """);
        Run.due("a path that leads nowhere goes before all else", TREE + """
                link /d / -> throws.NoSuchElementException
                link /d /x/n -> throws.NoSuchElementException
                link / /f/n -> throws.NoSuchElementException
                link /x /f -> throws.NoSuchElementException
                link /d/x /d -> throws.NoSuchElementException
                link /x / -> throws.NoSuchElementException
                link /f / -> throws.NoSuchElementException
                """);
        Run.due("a directory goes before the name that is there", TREE + """
                link /d /f -> throws.UnsupportedOperationException
                link /d /d -> throws.UnsupportedOperationException
                link / /d/e -> throws.UnsupportedOperationException
                link /f /f -> throws.IllegalStateException
                link /f /d/e -> throws.IllegalStateException
                """);
        Run.due("a directory goes before no block", Rows.twoFiles(14) + """
                link / /n -> throws.UnsupportedOperationException
                link /x /n -> throws.NoSuchElementException
                link /a / -> throws.NoSuchElementException
                link /a /n -> throws.IllegalStateException
                link /a /b -> throws.IllegalStateException
                """);
        Run.due("a directory goes before 24 slots", "makeDirectory /y -> 2\ncreate /a -> 3\n"
                + Rows.names("/a", "", 'b', 20) + """
                link /y /n -> throws.UnsupportedOperationException
                link /y /z -> throws.UnsupportedOperationException
                link /x /z -> throws.NoSuchElementException
                link /a /z -> throws.IllegalStateException
                """);
    }

    private static void unlink() {
        Run.due("unlink on a disk that isn't clean", SPOILED + """
                unlink /f -> throws.IllegalStateException
                unlink /d -> throws.IllegalStateException
                unlink / -> throws.IllegalStateException
                unlink /x -> throws.IllegalStateException
                unlink -> throws.IllegalStateException
                """);
        Run.due("unlink is refused", TREE + """
                unlink /d -> throws.UnsupportedOperationException
                unlink / -> throws.UnsupportedOperationException
                unlink /x -> throws.NoSuchElementException
                unlink /d/x -> throws.NoSuchElementException
                unlink /f/x -> throws.NoSuchElementException
                unlink -> throws.NoSuchElementException
                """);
    }

    private static void removeDirectory() {
        Run.due("removeDirectory on a disk that isn't clean", SPOILED + """
                removeDirectory /d -> throws.IllegalStateException
                removeDirectory /f -> throws.IllegalStateException
                removeDirectory / -> throws.IllegalStateException
                removeDirectory /x -> throws.IllegalStateException
                removeDirectory -> throws.IllegalStateException
                """);
        Run.due("the root goes before a slot that isn't free", TREE + """
                removeDirectory / -> throws.UnsupportedOperationException
                removeDirectory /f -> throws.UnsupportedOperationException
                removeDirectory /d/e -> throws.UnsupportedOperationException
                removeDirectory /d -> throws.IllegalArgumentException
                removeDirectory /x -> throws.NoSuchElementException
                removeDirectory /f/x -> throws.NoSuchElementException
                removeDirectory -> throws.NoSuchElementException
                """);
        Run.due("the root can't go when it is empty", "removeDirectory / -> "
                + "throws.UnsupportedOperationException\n");
    }

    private static void rename() {
        Run.due("rename on a disk that isn't clean", SPOILED + """
                rename /f /n -> throws.IllegalStateException
                rename / /n -> throws.IllegalStateException
                rename /d /d/n -> throws.IllegalStateException
                rename /f /d -> throws.IllegalStateException
                rename /x /n -> throws.IllegalStateException
                rename /f / -> throws.IllegalStateException
                rename -> throws.IllegalStateException
                """);
        Run.due("a path that leads nowhere goes before all else", TREE + """
                rename / / -> throws.NoSuchElementException
                rename / /x/n -> throws.NoSuchElementException
                rename / /f/n -> throws.NoSuchElementException
                rename /d / -> throws.NoSuchElementException
                rename /d /d/x/n -> throws.NoSuchElementException
                rename /d /d/e/n -> throws.NoSuchElementException
                rename /x /f -> throws.NoSuchElementException
                rename /d/x /d -> throws.NoSuchElementException
                """);
    }

    private static void renameWhereMuchHolds() {
        Run.due("the root goes before what lies in it and before the name that is there", TREE + """
                rename / /n -> throws.UnsupportedOperationException
                rename / /d/n -> throws.UnsupportedOperationException
                rename / /f -> throws.UnsupportedOperationException
                rename / /d/e -> throws.UnsupportedOperationException
                """);
        Run.due("a directory in itself goes before the name that is there", TREE + """
                rename /d /d/e -> throws.IllegalArgumentException
                rename /d /d/n -> throws.IllegalArgumentException
                rename /d /d -> throws.IllegalStateException
                rename /d /f -> throws.IllegalStateException
                """);
        Run.due("both go before no block", """
                create /a -> 2
                makeDirectory /d -> 3
                create /d/e -> 4
                makeDirectory /d/y -> 5
                """ + Rows.fill("/a", 38) + Rows.fill("/d/e", 12) + """
                count 1 -> 0
                rename / /n -> throws.UnsupportedOperationException
                rename /d /d/n -> throws.IllegalArgumentException
                rename /d /d/y/n -> throws.IllegalArgumentException
                rename /d /n -> throws.IllegalStateException
                rename /a /d/n -> throws.IllegalStateException
                rename /a /d/y/n -> 2
                """);
        Run.due("both go before 24 slots", "makeDirectory /d -> 2\ncreate /d/a -> 3\n"
                + Rows.names("/d/a", "/d", 'b', 21) + """
                rename /d /d/z -> throws.IllegalArgumentException
                rename / /d/z -> throws.UnsupportedOperationException
                rename /d/a /d/z -> throws.IllegalStateException
                """);
    }

    private static void write() {
        Run.due("write on a disk that isn't clean", SPOILED + """
                write /f 0 1 1 -> throws.IllegalStateException
                write /f 0 9 1 -> throws.IllegalStateException
                write /f -1 1 1 -> throws.IllegalStateException
                write /d 0 1 1 -> throws.IllegalStateException
                write /x 0 0 1 -> throws.IllegalStateException
                write 0 0 1 -> throws.IllegalStateException
                """);
        Run.due("a path that leads nowhere goes before wrong numbers", TREE + """
                write /x 0 0 1 -> throws.NoSuchElementException
                write /f/x 0 9 1 -> throws.NoSuchElementException
                write /d/x -1 1 1 -> throws.NoSuchElementException
                write 1216 1 1 -> throws.NoSuchElementException
                """);
        Run.due("a directory goes before wrong numbers", TREE + """
                write /d 0 0 1 -> throws.UnsupportedOperationException
                write /d 0 9 1 -> throws.UnsupportedOperationException
                write / -1 1 1 -> throws.UnsupportedOperationException
                write / 1216 1 1 -> throws.UnsupportedOperationException
                """);
    }

    private static void writeWithoutBlocks() {
        Run.due("all else goes before too few blocks", Rows.twoFiles(14) + """
                write / 0 1 1 -> throws.UnsupportedOperationException
                write /x 448 1 1 -> throws.NoSuchElementException
                write /b 448 0 1 -> throws.IllegalArgumentException
                write /b 448 9 1 -> throws.IllegalArgumentException
                write /b -1 8 1 -> throws.IllegalArgumentException
                write /b 1209 8 1 -> throws.IllegalArgumentException
                write /b 1208 8 1 -> throws.IllegalStateException
                write /b 448 1 1 -> throws.IllegalStateException
                """);
    }

    private static void read() {
        Run.due("read on a disk that isn't clean", SPOILED + """
                read /f 0 -> throws.IllegalStateException
                read /f -1 -> throws.IllegalStateException
                read /d 0 -> throws.IllegalStateException
                read /x -1 -> throws.IllegalStateException
                read 0 -> throws.IllegalStateException
                """);
        Run.due("a path, then a directory, then the offset", TREE + """
                read /x -1 -> throws.NoSuchElementException
                read /f/x -1 -> throws.NoSuchElementException
                read -1 -> throws.NoSuchElementException
                read / -1 -> throws.UnsupportedOperationException
                read /d -1 -> throws.UnsupportedOperationException
                read /d 0 -> throws.UnsupportedOperationException
                read /f -1 -> throws.IllegalArgumentException
                """);
    }

    private static void truncate() {
        Run.due("truncate on a disk that isn't clean", SPOILED + """
                truncate /f 0 -> throws.IllegalStateException
                truncate /f -1 -> throws.IllegalStateException
                truncate /d 0 -> throws.IllegalStateException
                truncate /x 1217 -> throws.IllegalStateException
                truncate 0 -> throws.IllegalStateException
                """);
        Run.due("a path, then a directory, then the size", TREE + """
                truncate /x -1 -> throws.NoSuchElementException
                truncate /f/x 1217 -> throws.NoSuchElementException
                truncate 1217 -> throws.NoSuchElementException
                truncate / 1217 -> throws.UnsupportedOperationException
                truncate /d -1 -> throws.UnsupportedOperationException
                truncate /d 16 -> throws.UnsupportedOperationException
                truncate /f -1 -> throws.IllegalArgumentException
                truncate /f 1217 -> throws.IllegalArgumentException
                """);
    }

    private static void stat() {
        Run.due("stat on a disk that isn't clean", SPOILED + """
                stat /f 0 -> throws.IllegalStateException
                stat /f 5 -> throws.IllegalStateException
                stat / -1 -> throws.IllegalStateException
                stat /x 5 -> throws.IllegalStateException
                stat 0 -> throws.IllegalStateException
                """);
        Run.due("a path, then what is asked", TREE + """
                stat /x 5 -> throws.NoSuchElementException
                stat /f/x -1 -> throws.NoSuchElementException
                stat 5 -> throws.NoSuchElementException
                stat /f 5 -> throws.IllegalArgumentException
                stat /d -1 -> throws.IllegalArgumentException
                """);
    }
}
