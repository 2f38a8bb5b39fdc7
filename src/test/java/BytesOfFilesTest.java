/** Promises 11, 12 and 13 (write, read, truncate). */
final class BytesOfFilesTest {
    public static void main(String[] args) {
        write();
        writeTakesBlocks();
        writeRefused();
        writeWithoutBlocks();
        read();
        truncate();
        truncateKeepsZerosBehind();
        truncateRefused();
        Run.end();
    }

    private static void write() {
        Run.due("the low bytes, the lowest first", """
                create /f -> 2
                write /f 0 8 72623859790382856 -> 8
                bytes 320 9 -> 8 7 6 5 4 3 2 1 0
                bytes 66 3 -> 8 0 10
                write /f 2 3 -1 -> 8
                bytes 320 9 -> 8 7 255 255 255 3 2 1 0
                write /f 7 2 513 -> 9
                bytes 326 3 -> 2 1 2
                read /f 1 -> 144398879255691015
                """);
        Run.due("one byte at either end", """
                create /f -> 2
                write /f 1215 1 200 -> 1216
                bytes 66 2 -> 192 4
                write /f 0 1 100 -> 1216
                read /f 0 -> 100
                read /f 1215 -> 200
                stat /f 4 -> 3
                """);
        Run.due("holes are zeros", """
                create /f -> 2
                write /f 100 1 1 -> 101
                stat /f 4 -> 1
                bytes 68 7 -> 0 0 0 10 0 0 0
                read /f 0 -> 0
                read /f 93 -> 72057594037927936
                """);
    }

    private static void writeTakesBlocks() {
        Run.due("the lower page first", """
                create /f -> 2
                write /f 30 4 -1 -> 34
                bytes 68 3 -> 10 11 0
                bytes 350 4 -> 255 255 255 255
                """);
        Run.due("the indirect block before page 6, behind page 5", """
                create /f -> 2
                write /f 190 4 -1 -> 194
                bytes 68 7 -> 0 0 0 0 0 10 11
                bytes 352 2 -> 12 0
                bytes 384 3 -> 255 255 0
                write /f 1214 2 -1 -> 1216
                bytes 382 2 -> 0 13
                stat /f 4 -> 4
                """);
        Run.due("the lowest blocks are taken, and are zeros at first", """
                create /f -> 2
                create /g -> 3
                write /f 0 8 -1 -> 8
                write /f 32 8 -1 -> 40
                write /g 0 1 1 -> 1
                truncate /f 0 -> 40
                write /g 192 1 3 -> 193
                byteAt 90 -> 10
                bytes 320 3 -> 11 0 0
                bytes 352 3 -> 3 0 0
                write /f 500 1 1 -> 501
                read /f 496 -> 4294967296
                """);
    }

    private static void writeRefused() {
        Run.due("wrong numbers", """
                create /f -> 2
                write /f 0 0 1 -> throws.IllegalArgumentException
                write /f 0 9 1 -> throws.IllegalArgumentException
                write /f 0 -1 1 -> throws.IllegalArgumentException
                write /f -1 1 1 -> throws.IllegalArgumentException
                write /f -2147483648 8 1 -> throws.IllegalArgumentException
                write /f 1216 1 1 -> throws.IllegalArgumentException
                write /f 1209 8 1 -> throws.IllegalArgumentException
                write /f 2147483647 8 1 -> throws.IllegalArgumentException
                write /f 0 -2147483648 1 -> throws.IllegalArgumentException
                write /f 0 2147483647 1 -> throws.IllegalArgumentException
                write /f 2147483647 2147483647 1 -> throws.IllegalArgumentException
                write /f -2147483648 -2147483648 1 -> throws.IllegalArgumentException
                write /f 2147483647 1 1 -> throws.IllegalArgumentException
                write /f 1217 -1 1 -> throws.IllegalArgumentException
                write /f 1216 0 1 -> throws.IllegalArgumentException
                stat /f 3 -> 0
                stat /f 4 -> 0
                write /f 1208 8 1 -> 1216
                """);
        StringBuilder ends = new StringBuilder("create /f -> 2\n");
        for (int n = 1; n <= 8; n++) {
            ends.append("write /f " + (1217 - n) + " " + n + " -1 -> " + Rows.ARGUMENT);
            ends.append("write /f " + (1216 - n) + " " + n + " -1 -> 1216\n");
            ends.append("write /f 0 " + n + " -1 -> 1216\n");
            ends.append("write /f -1 " + n + " -1 -> " + Rows.ARGUMENT);
        }
        Run.due("each n, up to 1216 and no further", ends + "stat /f 4 -> 3\n");
        Run.due("no file", """
                makeDirectory /d -> 2
                write /d 0 1 1 -> throws.UnsupportedOperationException
                write / 0 9 1 -> throws.UnsupportedOperationException
                write /x 0 9 1 -> throws.NoSuchElementException
                write /d/x 0 1 1 -> throws.NoSuchElementException
                """);
    }

    private static void writeWithoutBlocks() {
        Run.due("two pages, one block", Rows.twoFiles(12) + """
                write /b 384 1 1 -> 385
                write /b 444 8 1 -> throws.IllegalStateException
                write /b 444 9 1 -> throws.IllegalArgumentException
                write /b 412 8 1 -> 420
                count 1 -> 0
                write /b 448 1 1 -> throws.IllegalStateException
                write /b 0 8 1 -> 420
                write /b 440 8 5 -> 448
                """);
        String threeLeft = "create /a -> 2\ncreate /b -> 3\ncreate /c -> 4\n" + Rows.fill("/a", 38)
                + Rows.fill("/b", 10) + "count 1 -> 3\n";
        Run.due("two pages and the indirect block, three blocks", threeLeft + """
                write /c 188 8 -1 -> 196
                count 1 -> 0
                bytes 96 16 -> 1 1 196 0 0 0 0 0 0 61 62 0 0 0 0 0
                bytes 1984 2 -> 63 0
                bytes 2016 5 -> 255 255 255 255 0
                """);
        Run.due("two pages and the indirect block, two blocks", threeLeft + """
                write /b 320 1 1 -> 321
                count 1 -> 2
                write /c 188 8 -1 -> throws.IllegalStateException
                stat /c 3 -> 0
                stat /c 4 -> 0
                write /c 188 4 -1 -> 192
                write /c 192 4 -1 -> throws.IllegalStateException
                write /c 188 8 -1 -> throws.IllegalStateException
                read /c 188 -> 4294967295
                """);
        Run.due("a page and the indirect block, one block", """
                create /a -> 2
                create /b -> 3
                """ + Rows.fill("/a", 38) + Rows.fill("/b", 6) + """
                create /c -> 4
                """ + Rows.fill("/c", 6) + """
                count 1 -> 2
                write /c 192 1 1 -> 193
                count 1 -> 0
                truncate /c 192 -> 193
                truncate /c 160 -> 192
                write /c 190 4 1 -> 194
                truncate /c 190 -> 194
                write /b 200 1 1 -> 201
                write /c 192 1 1 -> throws.IllegalStateException
                count 1 -> 0
                truncate /a 1184 -> 1188
                count 1 -> 1
                write /c 192 1 1 -> throws.IllegalStateException
                write /c 160 8 1 -> 190
                """);
    }

    private static void read() {
        Run.due("what is behind the end is 0", """
                create /f -> 2
                read /f 0 -> 0
                write /f 28 8 -1 -> 36
                read /f 28 -> -1
                read /f 29 -> 72057594037927935
                read /f 35 -> 255
                read /f 36 -> 0
                read /f 20 -> 0
                read /f 1208 -> 0
                read /f 1216 -> 0
                read /f 100000 -> 0
                read /f 2147483647 -> 0
                """);
        Run.due("the end of the longest file", """
                create /f -> 2
                write /f 1208 8 72623859790382856 -> 1216
                read /f 1207 -> 144964032628459520
                read /f 1208 -> 72623859790382856
                read /f 1209 -> 283686952306183
                read /f 1215 -> 1
                read /f 1216 -> 0
                read /f 1217 -> 0
                """);
        Run.due("from the last direct page into the first one of the indirect block", """
                create /f -> 2
                write /f 188 8 72623859790382856 -> 196
                read /f 187 -> 144964032628459520
                read /f 188 -> 72623859790382856
                read /f 192 -> 16909060
                read /f 195 -> 1
                read /f 196 -> 0
                """);
        Run.due("a file of size 0, and one that ends in a hole", """
                create /f -> 2
                read /f 0 -> 0
                read /f 1 -> 0
                truncate /f 5 -> 0
                read /f 0 -> 0
                read /f 4 -> 0
                read /f 5 -> 0
                stat /f 4 -> 0
                """);
        Run.due("a negative long", """
                create /f -> 2
                write /f 0 8 -9223372036854775807 -> 8
                read /f 0 -> -9223372036854775807
                """);
        Run.due("refused", """
                create /f -> 2
                makeDirectory /d -> 3
                read /f -1 -> throws.IllegalArgumentException
                read /f -2147483648 -> throws.IllegalArgumentException
                read /d 0 -> throws.UnsupportedOperationException
                read / -1 -> throws.UnsupportedOperationException
                read /x -1 -> throws.NoSuchElementException
                """);
    }

    private static void truncate() {
        Run.due("pages behind the end lose their blocks", """
                create /f -> 2
                """ + Rows.fill("/f", 8) + """
                stat /f 4 -> 9
                truncate /f 225 -> 228
                stat /f 4 -> 9
                truncate /f 224 -> 225
                stat /f 4 -> 8
                bytes 68 7 -> 10 11 12 13 14 15 16
                bytes 512 3 -> 17 0 0
                truncate /f 193 -> 224
                stat /f 4 -> 8
                truncate /f 192 -> 193
                stat /f 4 -> 6
                bytes 68 7 -> 10 11 12 13 14 15 0
                byteAt 512 -> 0
                truncate /f 31 -> 192
                bytes 68 7 -> 10 0 0 0 0 0 0
                truncate /f 1 -> 31
                stat /f 4 -> 1
                truncate /f 0 -> 1
                stat /f 4 -> 0
                count 1 -> 54
                """);
        Run.due("pages that lose their blocks keep the bytes there", """
                create /f -> 2
                write /f 28 8 -1 -> 36
                truncate /f 30 -> 36
                bytes 348 8 -> 255 255 0 0 255 255 255 255
                truncate /f 0 -> 30
                bytes 348 8 -> 255 255 0 0 255 255 255 255
                """);
        Run.due("sizes round each end of a page", """
                create /f -> 2
                """ + Rows.fill("/f", 4) + """
                truncate /f 97 -> 100
                stat /f 4 -> 4
                truncate /f 96 -> 97
                stat /f 4 -> 3
                truncate /f 95 -> 96
                stat /f 4 -> 3
                truncate /f 65 -> 95
                stat /f 4 -> 3
                truncate /f 64 -> 65
                stat /f 4 -> 2
                truncate /f 64 -> 64
                stat /f 4 -> 2
                read /f 60 -> 0
                read /f 32 -> 4294967295
                """);
        Run.due("a size of 0 and the largest one", """
                create /f -> 2
                truncate /f 0 -> 0
                truncate /f 1216 -> 0
                bytes 66 2 -> 192 4
                truncate /f 1215 -> 1216
                truncate /f 255 -> 1215
                bytes 66 2 -> 255 0
                truncate /f 256 -> 255
                bytes 66 2 -> 0 1
                write /f 255 1 3 -> 256
                truncate /f 0 -> 256
                stat /f 3 -> 0
                stat /f 4 -> 0
                count 1 -> 54
                """);
        Run.due("the longest file becomes empty", "create /f -> 2\n" + Rows.fill("/f", 38) + """
                truncate /f 1216 -> 1188
                stat /f 4 -> 39
                truncate /f 1184 -> 1216
                stat /f 4 -> 38
                truncate /f 0 -> 1184
                stat /f 4 -> 0
                count 1 -> 54
                bytes 64 16 -> 1 1 0 0 0 0 0 0 0 0 0 0 0 0 0 0
                """ + "bytes 512 32 -> " + Rows.zeros(32));
        Run.due("no links and names change", """
                create /f -> 2
                link /f /g -> 2
                write /f 0 8 -1 -> 8
                truncate /g 1 -> 8
                read /f 0 -> 255
                stat /f 2 -> 2
                """);
        Run.due("a file becomes longer", """
                create /f -> 2
                write /f 0 8 -1 -> 8
                truncate /f 1216 -> 8
                stat /f 3 -> 1216
                stat /f 4 -> 1
                read /f 0 -> -1
                read /f 4 -> 4294967295
                truncate /f 1216 -> 1216
                """);
    }

    private static void truncateKeepsZerosBehind() {
        Run.due("the bytes behind the end become 0", """
                create /f -> 2
                write /f 0 8 -1 -> 8
                write /f 24 8 -1 -> 32
                truncate /f 3 -> 32
                bytes 320 3 -> 255 255 255
                """
                + "bytes 323 29 -> " + Rows.zeros(29) + """
                truncate /f 32 -> 3
                read /f 0 -> 16777215
                read /f 24 -> 0
                """);
        Run.due("the end lies in a hole", """
                create /f -> 2
                write /f 64 8 -1 -> 72
                truncate /f 40 -> 72
                stat /f 4 -> 0
                truncate /f 72 -> 40
                read /f 64 -> 0
                bytes 0 12 -> 77 7 0 255 3 0 0 0 0 0 0 1
                """);
        Run.due("the end lies in a page of the indirect block", """
                create /f -> 2
                write /f 220 8 -1 -> 228
                truncate /f 222 -> 228
                stat /f 4 -> 2
                bytes 320 3 -> 11 0 0
                bytes 380 4 -> 255 255 0 0
                truncate /f 192 -> 222
                stat /f 4 -> 0
                """);
    }

    private static void truncateRefused() {
        Run.due("refused", """
                create /f -> 2
                makeDirectory /d -> 3
                truncate /f -1 -> throws.IllegalArgumentException
                truncate /f 1217 -> throws.IllegalArgumentException
                truncate /f 2147483647 -> throws.IllegalArgumentException
                truncate /f -2147483648 -> throws.IllegalArgumentException
                truncate /d 16 -> throws.UnsupportedOperationException
                truncate / -1 -> throws.UnsupportedOperationException
                truncate /x -1 -> throws.NoSuchElementException
                """);
    }
}
