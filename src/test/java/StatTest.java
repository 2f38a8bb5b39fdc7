/** Promise 14 (stat). */
final class StatTest {
    public static void main(String[] args) {
        Run.due("a file", """
                makeDirectory /d -> 2
                create /d/f -> 3
                stat /d/f 0 -> 3
                stat /d/f 1 -> 1
                stat /d/f 2 -> 1
                stat /d/f 3 -> 0
                stat /d/f 4 -> 0
                link /d/f /g -> 2
                write /g 255 2 1 -> 257
                stat /d/f 2 -> 2
                stat /d/f 3 -> 257
                stat /d/f 4 -> 3
                truncate /g 1216 -> 257
                stat /g 3 -> 1216
                stat /g 4 -> 3
                """);
        Run.due("the indirect block is counted", """
                create /f -> 2
                stat /f 4 -> 0
                write /f 160 1 1 -> 161
                stat /f 4 -> 1
                write /f 192 1 1 -> 193
                stat /f 4 -> 3
                write /f 224 1 1 -> 225
                stat /f 4 -> 4
                """);
        Run.due("directories", """
                stat / 0 -> 1
                stat / 1 -> 2
                stat / 2 -> 2
                stat / 3 -> 16
                stat / 4 -> 1
                makeDirectory /d -> 2
                stat /d 0 -> 2
                stat /d 1 -> 2
                stat /d 2 -> 2
                stat /d 3 -> 16
                stat /d 4 -> 1
                stat / 2 -> 3
                stat / 3 -> 24
                """ + Rows.files("/d", 'a', 7, 3) + """
                stat /d 3 -> 72
                stat /d 4 -> 3
                """);
        Run.due("refused", """
                stat / 5 -> throws.IllegalArgumentException
                stat / -1 -> throws.IllegalArgumentException
                stat / 2147483647 -> throws.IllegalArgumentException
                stat / -2147483648 -> throws.IllegalArgumentException
                stat /x 5 -> throws.NoSuchElementException
                stat 5 -> throws.NoSuchElementException
                spoil 0 5 0 -> true
                stat /x 5 -> throws.IllegalStateException
                """);
        Run.end();
    }
}
