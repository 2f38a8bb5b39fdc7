/** Promises 8, 9 and 10 (unlink, removeDirectory, rename). */
final class GoingTest {
    public static void main(String[] args) {
        unlink();
        unlinkRefused();
        removeDirectory();
        removeDirectoryRefused();
        renameFile();
        renameDirectory();
        renameRefused();
        renameWithoutRoom();
        Run.end();
    }

    private static void unlink() {
        Run.due("the last name goes", """
                create /f -> 2
                write /f 0 8 -1 -> 8
                write /f 192 1 7 -> 193
                bytes 68 7 -> 10 0 0 0 0 0 11
                byteAt 352 -> 12
                unlink /f -> 0
                """
                + "bytes 64 16 -> " + Rows.zeros(16)
                + "bytes 304 8 -> " + Rows.zeros(8)
                + "bytes 352 32 -> " + Rows.zeros(32) + """
                bytes 320 8 -> 255 255 255 255 255 255 255 255
                byteAt 384 -> 7
                bytes 1 5 -> 3 0 255 3 0
                stat / 3 -> 24
                stat /f 0 -> throws.NoSuchElementException
                unlink /f -> throws.NoSuchElementException
                """);
        Run.due("one of several names goes", """
                create /a -> 2
                write /a 0 1 9 -> 1
                link /a /b -> 2
                link /a /c -> 3
                unlink /a -> 2
                stat /a 0 -> throws.NoSuchElementException
                read /b 0 -> 9
                unlink /c -> 1
                stat /b 2 -> 1
                count 1 -> 52
                unlink /b -> 0
                count 1 -> 53
                count 0 -> 14
                """);
        Run.due("a file without blocks goes", """
                create /f -> 2
                truncate /f 1216 -> 0
                unlink /f -> 0
                count 0 -> 14
                count 1 -> 54
                """ + "bytes 64 16 -> " + Rows.zeros(16));
        Run.due("the slot in the middle and the last slot go", Rows.files("", 'a', 3, 2) + """
                unlink /b -> 0
                stat / 3 -> 40
                """ + "bytes 312 8 -> " + Rows.zeros(8) + """
                unlink /c -> 0
                stat / 3 -> 40
                stat / 4 -> 2
                """ + "bytes 320 8 -> " + Rows.zeros(8));
    }

    private static void unlinkRefused() {
        Run.due("a directory can't be unlinked", """
                makeDirectory /d -> 2
                unlink /d -> throws.UnsupportedOperationException
                unlink / -> throws.UnsupportedOperationException
                unlink /x -> throws.NoSuchElementException
                unlink /d/x -> throws.NoSuchElementException
                """);
    }

    private static void removeDirectory() {
        Run.due("removeDirectory", """
                makeDirectory /d -> 2
                makeDirectory /d/e -> 3
                makeDirectory /f -> 4
                create /g -> 5
                stat / 2 -> 4
                removeDirectory /d/e -> 3
                stat /d 2 -> 2
                """
                + "bytes 80 16 -> " + Rows.zeros(16)
                + "bytes 336 8 -> " + Rows.zeros(8) + """
                bytes 352 16 -> 3 46 0 0 0 0 0 0 2 46 46 0 0 0 0 0
                stat /d 3 -> 24
                removeDirectory /d -> 2
                removeDirectory /f -> 1
                stat / 2 -> 2
                count 0 -> 13
                """);
        Run.due("all its blocks are given back", "makeDirectory /d -> 2\n"
                + Rows.files("/d", 'a', 1, 3) + Rows.names("/d/a", "/d", 'b', 6) + """
                stat /d 4 -> 3
                count 1 -> 51
                rename /d/a /a -> 3
                unlink /d/b -> 6
                unlink /d/c -> 5
                unlink /d/d -> 4
                unlink /d/e -> 3
                unlink /d/f -> 2
                unlink /d/g -> 1
                removeDirectory /d -> 1
                count 1 -> 54
                """);
    }

    private static void removeDirectoryRefused() {
        Run.due("what can't be removed", """
                create /f -> 2
                makeDirectory /d -> 3
                create /d/e -> 4
                removeDirectory /f -> throws.UnsupportedOperationException
                removeDirectory / -> throws.UnsupportedOperationException
                removeDirectory /d -> throws.IllegalArgumentException
                removeDirectory /x -> throws.NoSuchElementException
                removeDirectory /f/x -> throws.NoSuchElementException
                create /d/g -> 5
                unlink /d/e -> 0
                removeDirectory /d -> throws.IllegalArgumentException
                unlink /d/g -> 0
                removeDirectory /d -> 1
                removeDirectory / -> throws.UnsupportedOperationException
                """);
    }

    private static void renameFile() {
        Run.due("the new slot is made before the old one is free", """
                create /a -> 2
                create /b -> 3
                rename /a /c -> 2
                """
                + "bytes 304 8 -> " + Rows.zeros(8) + """
                bytes 320 8 -> 2 99 0 0 0 0 0 0
                stat / 3 -> 40
                count 1 -> 53
                stat /a 0 -> throws.NoSuchElementException
                rename /c /abcdefg -> 2
                bytes 304 8 -> 2 97 98 99 100 101 102 103
                """
                + "bytes 320 8 -> " + Rows.zeros(8) + """
                stat / 3 -> 40
                stat /abcdefg 2 -> 1
                """);
        Run.due("a file goes to another directory", """
                create /a -> 2
                makeDirectory /d -> 3
                write /a 0 1 5 -> 1
                link /a /b -> 2
                rename /a /d/c -> 2
                stat /d/c 2 -> 2
                read /d/c 0 -> 5
                stat /d 2 -> 2
                stat / 2 -> 3
                stat /a 0 -> throws.NoSuchElementException
                """);
    }

    private static void renameDirectory() {
        Run.due("a directory in the same one", """
                makeDirectory /d -> 2
                rename /d /e -> 2
                stat /e 2 -> 2
                stat / 2 -> 3
                bytes 320 16 -> 2 46 0 0 0 0 0 0 1 46 46 0 0 0 0 0
                """);
        Run.due("a directory goes to another one", """
                makeDirectory /d -> 2
                makeDirectory /e -> 3
                makeDirectory /d/f -> 4
                create /d/f/g -> 5
                rename /d/f /e/h -> 4
                bytes 384 16 -> 4 46 0 0 0 0 0 0 3 46 46 0 0 0 0 0
                stat /d 2 -> 2
                stat /e 2 -> 3
                stat /e/h 2 -> 2
                stat /e/h/g 0 -> 5
                rename /e/h /h -> 4
                byteAt 392 -> 1
                stat / 2 -> 5
                stat /e 2 -> 2
                removeDirectory /e -> 3
                """);
    }

    private static void renameRefused() {
        Run.due("nowhere", """
                create /a -> 2
                rename /x /y -> throws.NoSuchElementException
                rename /a / -> throws.NoSuchElementException
                rename /a /a/b -> throws.NoSuchElementException
                rename /a /x/b -> throws.NoSuchElementException
                rename / / -> throws.NoSuchElementException
                """);
        Run.due("the root", """
                create /a -> 2
                makeDirectory /d -> 3
                rename / /x -> throws.UnsupportedOperationException
                rename / /a -> throws.UnsupportedOperationException
                rename / /d/x -> throws.UnsupportedOperationException
                """);
        Run.due("a directory into itself", """
                makeDirectory /d -> 2
                makeDirectory /d/e -> 3
                makeDirectory /d/e/f -> 4
                rename /d /d/x -> throws.IllegalArgumentException
                rename /d /d/e/x -> throws.IllegalArgumentException
                rename /d /d/e/f/x -> throws.IllegalArgumentException
                rename /d /d/e -> throws.IllegalArgumentException
                rename /d/e /d/e/f/x -> throws.IllegalArgumentException
                rename /d/e/f /d/x -> 4
                rename /d/e /d/x/y -> 3
                """);
        StringBuilder deep = new StringBuilder();
        String path = "";
        for (int level = 2; level <= 15; level++) {
            path += "/d";
            deep.append("makeDirectory " + path + " -> " + level + "\n");
        }
        Run.due("at any depth", deep + "rename /d " + path + "/x -> " + Rows.ARGUMENT
                + "rename /d/d " + path + "/x -> " + Rows.ARGUMENT
                + "rename " + path + " /x -> 15\nrename /d /x/y -> 2\nstat /x/y/d 0 -> 3\n");
        Run.due("where A lies goes by the tree, not by the letters", """
                makeDirectory /d -> 2
                makeDirectory /de -> 3
                makeDirectory /e -> 4
                rename /e /de/d -> 4
                rename /d /de/d/d -> 2
                rename /de /de/x -> throws.IllegalArgumentException
                rename /de /de/d/d/x -> throws.IllegalArgumentException
                rename /de/d/d /d -> 2
                rename /de /d/de -> 3
                stat /d/de/d 0 -> 4
                """);
        Run.due("a file is no directory: it may go deeper", """
                makeDirectory /d -> 2
                create /f -> 3
                rename /f /d/f -> 3
                rename /d/f /d/g -> 3
                rename /d/g /g -> 3
                """);
        Run.due("the name is there", """
                create /a -> 2
                create /b -> 3
                makeDirectory /d -> 4
                rename /a /a -> throws.IllegalStateException
                rename /a /b -> throws.IllegalStateException
                rename /a /d -> throws.IllegalStateException
                rename /d /d -> throws.IllegalStateException
                rename /d /a -> throws.IllegalStateException
                """);
    }

    private static void renameWithoutRoom() {
        Run.due("24 slots in another directory", "makeDirectory /d -> 2\ncreate /d/a -> 3\n"
                + Rows.names("/d/a", "/d", 'b', 21) + """
                makeDirectory /e -> 4
                rename /e /d/x -> throws.IllegalStateException
                unlink /d/c -> 21
                rename /e /d/x -> 4
                stat /d 3 -> 192
                stat /d 2 -> 3
                stat / 2 -> 3
                """);
        Run.due("the new slot takes the last block", Rows.twoFiles(12) + """
                write /b 384 1 1 -> 385
                count 1 -> 1
                rename /a /c -> 2
                count 1 -> 0
                rename /c /a -> 2
                """);
        Run.due("24 slots", Rows.files("", 'a', 13, 2) + Rows.names("/a", "", 'n', 8) + """
                rename /b /x -> 3
                link /a /b -> 10
                rename /c /y -> throws.IllegalStateException
                unlink /d -> 0
                rename /c /y -> 4
                """);
        Run.due("no block for a slot", Rows.twoFiles(14) + """
                rename /a /c -> throws.IllegalStateException
                truncate /b 400 -> 420
                rename /a /c -> 2
                """);
    }
}
