/** Promises 5, 6 and 7 (create, makeDirectory, link), and room for a new slot. */
final class NewNamesTest {
    public static void main(String[] args) {
        create();
        createRefused();
        makeDirectory();
        makeDirectoryRefused();
        link();
        linkRefused();
        Run.end();
    }

    private static void create() {
        Run.due("create", """
                create /a -> 2
                bytes 64 16 -> 1 1 0 0 0 0 0 0 0 0 0 0 0 0 0 0
                bytes 304 8 -> 2 97 0 0 0 0 0 0
                bytes 48 5 -> 2 2 24 0 9
                byteAt 1 -> 7
                create /b -> 3
                count 1 -> 54
                create /abcdefg -> 4
                count 1 -> 53
                bytes 48 7 -> 2 2 40 0 9 10 0
                bytes 320 16 -> 4 97 98 99 100 101 102 103 0 0 0 0 0 0 0 0
                """);
        Run.due("the lowest inode and free slot are taken", Rows.files("", 'a', 5, 2) + """
                unlink /d -> 0
                unlink /b -> 0
                create /x -> 3
                bytes 312 8 -> 3 120 0 0 0 0 0 0
                create /y -> 5
                bytes 328 8 -> 5 121 0 0 0 0 0 0
                stat / 3 -> 56
                """);
        Run.due("a slot's block is zeros at first", """
                create /a -> 2
                write /a 0 8 -1 -> 8
                truncate /a 0 -> 8
                byteAt 327 -> 255
                create /b -> 3
                create /c -> 4
                bytes 320 16 -> 4 99 0 0 0 0 0 0 0 0 0 0 0 0 0 0
                """);
        Run.due("create in a directory", """
                makeDirectory /d -> 2
                create /d/f -> 3
                bytes 336 8 -> 3 102 0 0 0 0 0 0
                stat /d 3 -> 24
                stat / 3 -> 24
                """);
    }

    private static void createRefused() {
        Run.due("the name is there", """
                create /a -> 2
                makeDirectory /d -> 3
                create /a -> throws.IllegalStateException
                create /d -> throws.IllegalStateException
                create /d/a -> 4
                """);
        Run.due("no inode is left", Rows.files("", 'a', 14, 2) + """
                create /z -> throws.IllegalStateException
                link /a /z -> 2
                unlink /f -> 0
                create /y -> 7
                """);
        Run.due("24 slots", Rows.files("", 'a', 12, 2) + Rows.names("/a", "", 'm', 9) + """
                stat / 3 -> 184
                create /w -> 14
                stat / 3 -> 192
                stat / 4 -> 6
                create /x -> throws.IllegalStateException
                count 0 -> 1
                unlink /c -> 0
                create /x -> 4
                stat / 3 -> 192
                """);
        Run.due("no block for a slot", Rows.twoFiles(14) + """
                count 1 -> 0
                create /c -> throws.IllegalStateException
                unlink /b -> 0
                create /c -> 3
                stat / 4 -> 1
                """);
        Run.due("a slot that needs no block", "create /c -> 2\nmakeDirectory /d -> 3\n"
                + Rows.fill("/c", 38) + "create /d/e -> 4\n" + Rows.fill("/d/e", 12) + """
                count 1 -> 1
                create /d/f -> 5
                write /d/e 384 1 1 -> 385
                count 1 -> 0
                create /d/g -> throws.IllegalStateException
                create /g -> throws.IllegalStateException
                unlink /d/f -> 0
                create /d/g -> 5
                """);
    }

    private static void makeDirectory() {
        Run.due("makeDirectory", """
                makeDirectory /d -> 2
                bytes 64 16 -> 2 2 16 0 10 0 0 0 0 0 0 0 0 0 0 0
                bytes 320 16 -> 2 46 0 0 0 0 0 0 1 46 46 0 0 0 0 0
                bytes 304 8 -> 2 100 0 0 0 0 0 0
                bytes 48 5 -> 2 3 24 0 9
                makeDirectory /d/e -> 3
                bytes 352 16 -> 3 46 0 0 0 0 0 0 2 46 46 0 0 0 0 0
                stat /d 2 -> 3
                stat /d/e 2 -> 2
                stat / 2 -> 3
                """);
        Run.due("its own block is taken before the one above", Rows.files("", 'a', 2, 2) + """
                makeDirectory /d -> 4
                bytes 96 5 -> 2 2 16 0 10
                bytes 48 7 -> 2 3 40 0 9 11 0
                bytes 352 8 -> 4 100 0 0 0 0 0 0
                """);
    }

    private static void makeDirectoryRefused() {
        Run.due("the name is there", """
                create /a -> 2
                makeDirectory /d -> 3
                makeDirectory /a -> throws.IllegalStateException
                makeDirectory /d -> throws.IllegalStateException
                """);
        Run.due("no inode is left", Rows.files("", 'a', 14, 2)
                + "makeDirectory /z -> " + Rows.STATE);
        Run.due("24 slots", Rows.files("", 'a', 13, 2) + Rows.names("/a", "", 'n', 9)
                + "makeDirectory /x -> " + Rows.STATE);
        Run.due("two blocks are needed, one is left", Rows.twoFiles(12) + """
                write /b 384 1 1 -> 385
                count 1 -> 1
                makeDirectory /d -> throws.IllegalStateException
                count 1 -> 1
                unlink /a -> 0
                makeDirectory /d -> 2
                """);
        Run.due("two blocks are needed, two are left", Rows.twoFiles(12) + """
                count 1 -> 2
                makeDirectory /d -> 4
                count 1 -> 0
                """);
        Run.due("one block is needed, none is left", "create /a -> 2\nmakeDirectory /d -> 3\n"
                + Rows.fill("/a", 38) + "create /d/e -> 4\n" + Rows.fill("/d/e", 12) + """
                write /d/e 384 1 1 -> 385
                count 1 -> 0
                makeDirectory /d/x -> throws.IllegalStateException
                truncate /d/e 384 -> 385
                makeDirectory /d/x -> 5
                count 1 -> 0
                """);
    }

    private static void link() {
        Run.due("link", """
                create /a -> 2
                makeDirectory /d -> 3
                link /a /d/b -> 2
                bytes 336 8 -> 2 98 0 0 0 0 0 0
                byteAt 65 -> 2
                link /d/b /c -> 3
                write /c 0 1 5 -> 1
                read /a 0 -> 5
                read /d/b 0 -> 5
                stat /a 2 -> 3
                """);
    }

    private static void linkRefused() {
        Run.due("B leads to nothing, or A is no new name", """
                create /a -> 2
                link /x /y -> throws.NoSuchElementException
                link /a /x/y -> throws.NoSuchElementException
                link /a /a/y -> throws.NoSuchElementException
                link /a / -> throws.NoSuchElementException
                """);
        Run.due("B is a directory", """
                create /a -> 2
                makeDirectory /d -> 3
                link /d /x -> throws.UnsupportedOperationException
                link / /x -> throws.UnsupportedOperationException
                link /d /a -> throws.UnsupportedOperationException
                link /d /x/y -> throws.NoSuchElementException
                """);
        Run.due("the name A is there", """
                create /a -> 2
                makeDirectory /d -> 3
                link /a /a -> throws.IllegalStateException
                link /a /d -> throws.IllegalStateException
                stat /a 2 -> 1
                """);
        Run.due("24 slots", Rows.files("", 'a', 1, 2) + Rows.names("/a", "", 'b', 21) + """
                stat /a 2 -> 22
                link /a /x -> throws.IllegalStateException
                unlink /d -> 21
                link /a /x -> 22
                """);
        Run.due("no block for a slot", Rows.twoFiles(14) + """
                link /a /c -> throws.IllegalStateException
                truncate /b 400 -> 420
                link /a /c -> 2
                """);
    }
}
