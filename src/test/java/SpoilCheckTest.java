/** Promises 15 and 16 (spoil, check). */
final class SpoilCheckTest {
    private static final String TREE = """
            makeDirectory /d -> 2
            create /d/f -> 3
            link /d/f /g -> 2
            write /g 190 4 -1 -> 194
            """;

    public static void main(String[] args) {
        spoilMaps();
        spoilLinks();
        spoilRefused();
        notClean();
        check();
        repair();
        Run.end();
    }

    private static void spoilMaps() {
        Run.due("the bit of an inode is turned", """
                spoil 0 1 0 -> true
                byteAt 1 -> 1
                byteAt 11 -> 0
                spoil 0 15 -5 -> true
                bytes 1 2 -> 1 128
                spoil 0 1 999 -> true
                bytes 1 2 -> 3 128
                count 0 -> 13
                """);
        Run.due("the bit of a block is turned", """
                spoil 1 9 0 -> true
                bytes 3 2 -> 255 1
                byteAt 11 -> 0
                spoil 1 63 -1 -> true
                byteAt 10 -> 128
                spoil 1 9 256 -> true
                bytes 3 8 -> 255 3 0 0 0 0 0 128
                """);
    }

    private static void spoilLinks() {
        Run.due("the links become v", TREE + """
                spoil 2 3 0 -> true
                byteAt 81 -> 0
                spoil 2 3 255 -> true
                byteAt 81 -> 255
                byteAt 11 -> 0
                spoil 2 1 7 -> true
                byteAt 49 -> 7
                """);
        Run.due("an inode whose bit is wrong has a kind still", TREE + """
                spoil 0 3 0 -> true
                spoil 2 3 9 -> true
                check true -> 2
                """);
        Run.due("an inode that is taken by the map alone has none", """
                spoil 0 3 0 -> true
                spoil 2 3 9 -> false
                """);
        Run.due("the first and the last inode", Rows.files("", 'a', 14, 2) + """
                spoil 2 1 0 -> true
                byteAt 49 -> 0
                spoil 2 15 255 -> true
                byteAt 273 -> 255
                check true -> 2
                byteAt 49 -> 2
                byteAt 273 -> 1
                """);
        Run.due("an inode that went has none", """
                create /a -> 2
                unlink /a -> 0
                spoil 2 2 1 -> false
                count 2 -> 1
                """);
    }

    private static void spoilRefused() {
        Run.due("nothing is done", TREE + """
                spoil 0 0 0 -> false
                spoil 0 16 0 -> false
                spoil 0 -1 0 -> false
                spoil 1 8 0 -> false
                spoil 1 64 0 -> false
                spoil 1 -1 0 -> false
                spoil 1 2147483647 0 -> false
                spoil 2 0 1 -> false
                spoil 2 16 1 -> false
                spoil 2 -1 1 -> false
                spoil 2 4 1 -> false
                spoil 2 3 256 -> false
                spoil 2 3 -1 -> false
                spoil 2 -2147483648 1 -> false
                spoil 2 3 2147483647 -> false
                spoil 2 3 -2147483648 -> false
                spoil 0 2147483647 0 -> false
                spoil 0 -2147483648 0 -> false
                spoil 1 -2147483648 0 -> false
                spoil 2 2147483647 0 -> false
                spoil 3 3 1 -> false
                spoil -1 3 1 -> false
                spoil 2147483647 3 1 -> false
                spoil -2147483648 3 1 -> false
                count 2 -> 1
                check false -> 0
                byteAt 81 -> 2
                """);
    }

    private static void notClean() {
        Run.due("not clean, though nothing is wrong", """
                create /a -> 2
                spoil 2 2 1 -> true
                count 2 -> 0
                stat /a 0 -> throws.IllegalStateException
                check false -> 0
                count 2 -> 0
                stat /a 0 -> throws.IllegalStateException
                check true -> 0
                count 2 -> 1
                stat /a 0 -> 2
                """);
        Run.due("a bit that is turned twice", """
                spoil 1 20 0 -> true
                spoil 1 20 0 -> true
                check false -> 0
                count 2 -> 0
                """);
    }

    private static void check() {
        Run.due("what is wrong is counted", TREE + """
                check false -> 0
                check true -> 0
                spoil 0 3 0 -> true
                check false -> 1
                spoil 0 4 0 -> true
                check false -> 2
                spoil 1 11 0 -> true
                check false -> 3
                spoil 1 12 0 -> true
                check false -> 4
                spoil 1 63 0 -> true
                check false -> 5
                spoil 2 3 1 -> true
                check false -> 6
                spoil 2 1 4 -> true
                check false -> 7
                spoil 2 2 2 -> true
                check false -> 7
                """);
        Run.due("a new disk has nothing wrong, nor has a full one", "check false -> 0\n"
                + "check true -> 0\n" + Rows.twoFiles(14) + """
                check false -> 0
                check true -> 0
                """);
        Run.due("the first and the last of each map", """
                spoil 0 1 0 -> true
                check false -> 1
                spoil 0 15 0 -> true
                check false -> 2
                spoil 1 9 0 -> true
                check false -> 3
                spoil 1 63 0 -> true
                check false -> 4
                spoil 1 63 0 -> true
                check false -> 3
                check true -> 3
                bytes 0 12 -> 77 3 0 255 3 0 0 0 0 0 0 1
                """);
        Run.due("the blocks of holes, of the indirect one and of page 37", """
                create /f -> 2
                write /f 1215 1 1 -> 1216
                write /f 96 1 1 -> 1216
                spoil 1 10 0 -> true
                spoil 1 11 0 -> true
                spoil 1 12 0 -> true
                spoil 1 13 0 -> true
                check false -> 4
                check true -> 4
                bytes 3 3 -> 255 31 0
                read /f 1215 -> 1
                read /f 96 -> 1
                """);
        Run.due("a directory deep in the tree and all 24 slots of one", "makeDirectory /d -> 2\n"
                + "makeDirectory /d/z -> 3\ncreate /d/a -> 4\n"
                + Rows.names("/d/a", "/d", 'b', 20) + """
                check false -> 0
                spoil 2 4 20 -> true
                check false -> 1
                spoil 2 3 3 -> true
                spoil 2 2 2 -> true
                spoil 0 3 0 -> true
                spoil 1 11 0 -> true
                check true -> 5
                stat /d/a 2 -> 21
                stat /d/z 2 -> 2
                stat /d 2 -> 3
                check false -> 0
                """);
        Run.due("links are counted of inodes that the tree has alone", """
                create /a -> 2
                spoil 0 3 0 -> true
                spoil 2 3 1 -> false
                check false -> 1
                spoil 2 2 0 -> true
                spoil 0 2 0 -> true
                check false -> 3
                check true -> 3
                stat /a 2 -> 1
                """);
        StringBuilder all = new StringBuilder();
        for (int i = 1; i < 16; i++) {
            all.append("spoil 0 " + i + " 0 -> true\n");
        }
        for (int i = 9; i < 64; i++) {
            all.append("spoil 1 " + i + " 0 -> true\n");
        }
        all.append("spoil 2 1 3 -> true\n");
        Run.due("every bit", all + "check false -> 71\ncheck true -> 71\ncheck false -> 0\n"
                + "count 0 -> 14\ncount 1 -> 54\nstat / 2 -> 2\n");
    }

    private static void repair() {
        Run.due("what is wrong is mended", TREE + """
                spoil 0 3 0 -> true
                spoil 0 15 0 -> true
                spoil 1 11 0 -> true
                spoil 1 12 0 -> true
                spoil 1 40 0 -> true
                spoil 2 1 0 -> true
                spoil 2 3 77 -> true
                check true -> 7
                bytes 0 12 -> 77 15 0 255 63 0 0 0 0 0 0 1
                byteAt 49 -> 3
                byteAt 65 -> 2
                byteAt 81 -> 2
                check false -> 0
                unlink /g -> 1
                unlink /d/f -> 0
                removeDirectory /d -> 1
                count 1 -> 54
                """);
        Run.due("a check says nothing of the tree as it was at the check before", """
                create /a -> 2
                makeDirectory /d -> 3
                write /a 188 8 -1 -> 196
                check false -> 0
                unlink /a -> 0
                check false -> 0
                removeDirectory /d -> 1
                check false -> 0
                makeDirectory /d -> 2
                create /d/e -> 3
                check true -> 0
                """);
        Run.due("without repair nothing is mended", TREE + """
                spoil 1 13 0 -> true
                check false -> 1
                bytes 0 12 -> 77 15 0 255 31 0 0 0 0 0 0 0
                check false -> 1
                check true -> 1
                check true -> 0
                """);
    }
}
