/** The edges that the document's terms name: of the disk, the maps, pages, slots and room. */
final class EdgesTest {
    private static final String FULL_MAP = "255 255 255 255 255 255 255 255\n";

    public static void main(String[] args) {
        lastInode();
        lastBlock();
        pages();
        noPageBehindTheLastOne();
        holes();
        indirectBlock();
        slots();
        blocksOfSlots();
        lowestFreeSlot();
        roomWithoutBlocks();
        lastCall();
        Run.end();
    }

    private static void lastInode() {
        Run.due("inode 15 is the last one", Rows.files("", 'a', 13, 2) + """
                count 0 -> 1
                bytes 1 2 -> 255 127
                create /n -> 15
                count 0 -> 0
                bytes 1 2 -> 255 255
                write /n 0 1 9 -> 1
                bytes 272 16 -> 1 1 1 0 13 0 0 0 0 0 0 0 0 0 0 0
                create /z -> throws.IllegalStateException
                makeDirectory /z -> throws.IllegalStateException
                unlink /n -> 0
                bytes 1 2 -> 255 127
                """ + "bytes 272 16 -> " + Rows.zeros(16) + """
                makeDirectory /z -> 15
                bytes 272 16 -> 2 2 16 0 13 0 0 0 0 0 0 0 0 0 0 0
                count 0 -> 0
                """);
        Run.due("inode 1 is the first one, and always the root's", """
                bytes 1 2 -> 3 0
                removeDirectory / -> throws.UnsupportedOperationException
                create /a -> 2
                unlink /a -> 0
                create /b -> 2
                """);
    }

    private static void lastBlock() {
        Run.due("block 63 is the last one", Rows.twoFiles(12) + """
                count 1 -> 2
                bytes 3 8 -> 255 255 255 255 255 255 255 63
                write /b 384 1 1 -> 385
                count 1 -> 1
                byteAt 10 -> 127
                write /b 416 1 7 -> 417
                count 1 -> 0
                """ + "bytes 3 8 -> " + FULL_MAP + """
                bytes 2016 2 -> 7 0
                write /b 447 1 200 -> 448
                byteAt 2047 -> 200
                byteAt 2048 -> -1
                write /b 448 1 1 -> throws.IllegalStateException
                unlink /b -> 0
                bytes 3 8 -> 255 255 255 255 255 255 1 0
                bytes 2046 2 -> 0 200
                """);
        Run.due("blocks 0 .. 8 are never given away", """
                create /a -> 2
                bytes 3 2 -> 255 3
                write /a 0 1 1 -> 1
                byteAt 68 -> 10
                unlink /a -> 0
                bytes 3 2 -> 255 3
                """);
    }

    private static void pages() {
        Run.due("a page ends behind its 32nd byte", """
                create /f -> 2
                write /f 31 1 1 -> 32
                stat /f 4 -> 1
                write /f 32 1 2 -> 33
                stat /f 4 -> 2
                bytes 351 2 -> 1 2
                """);
        Run.due("page 5 is the last direct one", """
                create /f -> 2
                write /f 191 1 5 -> 192
                bytes 68 7 -> 0 0 0 0 0 10 0
                stat /f 4 -> 1
                byteAt 351 -> 5
                """);
        Run.due("page 6 is the first one of the indirect block", """
                create /f -> 2
                write /f 192 1 6 -> 193
                bytes 68 7 -> 0 0 0 0 0 0 10
                """ + "bytes 320 32 -> 11 " + Rows.zeros(31) + """
                stat /f 4 -> 2
                byteAt 352 -> 6
                """);
        Run.due("page 37 is the last one", """
                create /f -> 2
                write /f 1184 1 7 -> 1185
                bytes 68 7 -> 0 0 0 0 0 0 10
                bytes 320 32 -> 0 0 0 0 0 0 0 0 0 0 0 0 0 0 0 0 0 0 0 0 0 0 0 0 0 0 0 0 0 0 0 11
                write /f 1183 1 8 -> 1185
                bytes 350 2 -> 12 11
                stat /f 4 -> 3
                write /f 1216 1 1 -> throws.IllegalArgumentException
                """);
        Run.due("a file with all its pages", "create /f -> 2\n" + Rows.fill("/f", 38) + """
                stat /f 3 -> 1188
                stat /f 4 -> 39
                count 1 -> 15
                write /f 1208 8 -1 -> 1216
                stat /f 4 -> 39
                read /f 1208 -> -1
                unlink /f -> 0
                count 1 -> 54
                """ + "bytes 512 32 -> " + Rows.zeros(32));
    }

    /** The block of page 37 lies behind the indirect one here, and begins with a block's number. */
    private static void noPageBehindTheLastOne() {
        Run.due("nothing is read or made 0 behind page 37", """
                create /f -> 2
                write /f 1184 8 651061555542690057 -> 1192
                write /f 1208 8 -1 -> 1216
                bytes 351 3 -> 11 9 9
                read /f 1215 -> 255
                read /f 1216 -> 0
                read /f 1240 -> 0
                truncate /f 1200 -> 1216
                bytes 288 2 -> 1 46
                truncate /f 1216 -> 1200
                bytes 288 2 -> 1 46
                unlink /f -> 0
                bytes 288 2 -> 1 46
                """);
        Run.due("no block is found behind page 37", """
                create /f -> 2
                write /f 1184 8 2893606913523066920 -> 1192
                bytes 351 2 -> 11 40
                stat /f 4 -> 2
                check false -> 0
                """);
    }

    private static void holes() {
        Run.due("a hole before, between and behind pages", """
                create /f -> 2
                write /f 32 8 -1 -> 40
                write /f 96 8 -1 -> 104
                truncate /f 192 -> 104
                bytes 68 7 -> 0 10 0 11 0 0 0
                read /f 0 -> 0
                read /f 31 -> -256
                read /f 28 -> -4294967296
                read /f 60 -> 0
                read /f 92 -> -4294967296
                read /f 128 -> 0
                read /f 184 -> 0
                """);
        Run.due("a hole in the indirect block", """
                create /f -> 2
                write /f 224 8 -1 -> 232
                write /f 1216 1 1 -> throws.IllegalArgumentException
                write /f 1208 8 -1 -> 1216
                read /f 192 -> 0
                read /f 220 -> -4294967296
                read /f 256 -> 0
                read /f 1176 -> 0
                read /f 1180 -> 0
                stat /f 4 -> 3
                write /f 192 1 1 -> 1216
                stat /f 4 -> 4
                """);
        Run.due("holes where there is no indirect block", """
                create /f -> 2
                truncate /f 1216 -> 0
                stat /f 4 -> 0
                read /f 0 -> 0
                read /f 188 -> 0
                read /f 192 -> 0
                read /f 1208 -> 0
                count 1 -> 54
                """);
    }

    private static void indirectBlock() {
        Run.due("an indirect block is there only if one of its bytes isn't 0", """
                create /f -> 2
                write /f 188 8 -1 -> 196
                write /f 1184 1 1 -> 1185
                stat /f 4 -> 4
                truncate /f 1184 -> 1185
                stat /f 4 -> 3
                byteAt 74 -> 11
                truncate /f 193 -> 1184
                stat /f 4 -> 3
                byteAt 74 -> 11
                truncate /f 192 -> 193
                stat /f 4 -> 1
                byteAt 74 -> 0
                """ + "bytes 352 32 -> " + Rows.zeros(32) + """
                truncate /f 1216 -> 192
                byteAt 74 -> 0
                """);
        Run.due("page 37 alone holds it", """
                create /f -> 2
                write /f 1215 1 1 -> 1216
                truncate /f 1185 -> 1216
                stat /f 4 -> 2
                truncate /f 1184 -> 1185
                stat /f 4 -> 0
                count 1 -> 54
                """);
    }

    private static void slots() {
        String names = "makeDirectory /d -> 2\ncreate /d/a -> 3\n"
                + Rows.names("/d/a", "/d", 'b', 20);
        Run.due("create makes the 24th slot, and no 25th", names + """
                stat /d 3 -> 184
                create /d/w -> 4
                stat /d 3 -> 192
                stat /d 4 -> 6
                bytes 504 8 -> 4 119 0 0 0 0 0 0
                create /d/x -> throws.IllegalStateException
                create /x -> 5
                """);
        Run.due("makeDirectory makes the 24th slot, and no 25th", names + """
                makeDirectory /d/w -> 4
                stat /d 3 -> 192
                stat /d 4 -> 6
                makeDirectory /d/x -> throws.IllegalStateException
                makeDirectory /d/w/x -> 5
                """);
        Run.due("link makes the 24th slot, and no 25th", names + """
                link /d/a /d/w -> 22
                stat /d 3 -> 192
                link /d/a /d/x -> throws.IllegalStateException
                link /d/a /x -> 23
                """);
        Run.due("rename makes the 24th slot, and no 25th", names + """
                rename /d/a /d/w -> 3
                stat /d 3 -> 192
                create /d/x -> 4
                rename /d/x /d/y -> throws.IllegalStateException
                rename /d/x /x -> 4
                rename /x /d/y -> 4
                stat /d 3 -> 192
                """);
        Run.due("a directory is empty or not by its last slot too", "makeDirectory /d -> 2\n"
                + "create /d/a -> 3\n" + Rows.names("/d/a", "/d", 'b', 21) + unlinks(22)
                + "removeDirectory /d -> throws.IllegalArgumentException\n"
                + "unlink /d/v -> 0\nstat /d 3 -> 192\nremoveDirectory /d -> 1\ncount 1 -> 54\n");
    }

    /** Takes away names of a file in /d that has so many, all but the last one. */
    private static String unlinks(int names) {
        StringBuilder rows = new StringBuilder();
        for (int k = 1; k < names; k++) {
            rows.append("unlink /d/" + (char) ('a' + k - 1) + " -> " + (names - k) + "\n");
        }
        return rows.toString();
    }

    private static void blocksOfSlots() {
        StringBuilder rows = new StringBuilder("create /a -> 2\nstat / 4 -> 1\n");
        for (int slots = 4; slots <= 24; slots++) {
            char name = (char) ('a' + slots - 3);
            rows.append("link /a /" + name + " -> " + (slots - 2) + "\n");
            rows.append("stat / 4 -> " + (slots + 3) / 4 + "\n");
        }
        Run.due("a block is taken if the size is a multiple of 32", rows + """
                stat / 3 -> 192
                bytes 52 7 -> 9 10 11 12 13 14 0
                count 1 -> 49
                """);
    }

    private static void lowestFreeSlot() {
        Run.due("the lowest free slot, from 2 on", "create /a -> 2\n"
                + Rows.names("/a", "", 'b', 8) + """
                stat / 3 -> 88
                unlink /i -> 8
                unlink /e -> 7
                unlink /a -> 6
                create /x -> 3
                bytes 304 8 -> 3 120 0 0 0 0 0 0
                create /y -> 4
                bytes 336 8 -> 4 121 0 0 0 0 0 0
                create /z -> 5
                bytes 368 8 -> 5 122 0 0 0 0 0 0
                stat / 3 -> 88
                create /w -> 6
                stat / 3 -> 96
                stat / 4 -> 3
                """);
        Run.due("slots 0 and 1 are never a name's", """
                bytes 288 16 -> 1 46 0 0 0 0 0 0 1 46 46 0 0 0 0 0
                create /a -> 2
                unlink /a -> 0
                create /b -> 2
                bytes 288 24 -> 1 46 0 0 0 0 0 0 1 46 46 0 0 0 0 0 2 98 0 0 0 0 0 0
                """);
        Run.due("a slot's name has zeros behind", """
                create /abcdefg -> 2
                bytes 304 8 -> 2 97 98 99 100 101 102 103
                unlink /abcdefg -> 0
                """ + "bytes 304 8 -> " + Rows.zeros(8) + """
                create /z -> 2
                bytes 304 8 -> 2 122 0 0 0 0 0 0
                """);
    }

    private static void roomWithoutBlocks() {
        String full = "create /a -> 2\nmakeDirectory /d -> 3\ncreate /d/e -> 4\n"
                + Rows.fill("/a", 38) + Rows.fill("/d/e", 12) + "write /d/e 384 1 1 -> 385\n"
                + "count 1 -> 0\nstat /d 3 -> 24\nstat / 3 -> 32\n";
        Run.due("create needs no block for a slot in a block that is there", full + """
                create /n -> throws.IllegalStateException
                create /d/n -> 5
                create /d/o -> throws.IllegalStateException
                unlink /d/n -> 0
                create /d/o -> 5
                """);
        Run.due("link needs no block for a slot in a block that is there", full + """
                link /a /n -> throws.IllegalStateException
                link /a /d/n -> 2
                link /a /d/o -> throws.IllegalStateException
                unlink /d/n -> 1
                link /a /d/o -> 2
                """);
        Run.due("rename needs no block for a slot in a block that is there", full + """
                rename /d/e /n -> throws.IllegalStateException
                rename /d/e /d/n -> 4
                rename /d/n /d/o -> 4
                rename /a /d/a -> 2
                rename /d/a /b -> 2
                """);
        Run.due("makeDirectory always needs a block", full + """
                makeDirectory /n -> throws.IllegalStateException
                makeDirectory /d/n -> throws.IllegalStateException
                truncate /d/e 384 -> 385
                makeDirectory /n -> throws.IllegalStateException
                makeDirectory /d/n -> 5
                count 1 -> 0
                """);
    }

    private static void lastCall() {
        Played played = new Played();
        played.answer("text /f");
        while (played.calls() < Played.CALLS_MAX - 1) {
            played.answer("byteAt 0");
        }
        Run.same("the 512th call", played.answer("create"), "2");
        Run.same("calls", played.calls(), Played.CALLS_MAX);
    }
}
