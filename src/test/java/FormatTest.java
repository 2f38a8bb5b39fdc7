import java.util.ArrayList;
import java.util.Arrays;
import java.util.List;

/** Promises 1 and 2 (a new object, format), 17 (byteAt) and 18 (count). */
final class FormatTest {
    public static void main(String[] args) {
        newObject();
        format();
        byteAt();
        count();
        Run.end();
    }

    private static int[] fresh() {
        int[] image = new int[2048];
        int[] head = {77, 3, 0, 255, 3, 0, 0, 0, 0, 0, 0, 1};
        int[] root = {2, 2, 16, 0, 9};
        int[] slots = {1, '.', 0, 0, 0, 0, 0, 0, 1, '.', '.'};
        System.arraycopy(head, 0, image, 0, head.length);
        System.arraycopy(root, 0, image, 48, root.length);
        System.arraycopy(slots, 0, image, 288, slots.length);
        return image;
    }

    private static void newObject() {
        Run.same("a new disk", Arrays.equals(Played.image(List.of()), fresh()), true);
        Run.due("a new object has empty paths", """
                keep -> 0
                create -> throws.NoSuchElementException
                type 47 -> 1
                """);
        Run.due("path B is empty at first", """
                text /a -> 2
                link -> throws.NoSuchElementException
                """);
    }

    private static void format() {
        List<String> calls = List.of("create /a", "write /a 28 8 -1", "write /a 190 8 -1",
                "makeDirectory /d", "create /d/e", "spoil 1 40 0", "format");
        Run.same("format leaves the root alone",
                Arrays.equals(Played.image(calls), fresh()), true);
        List<String> full = new ArrayList<>();
        for (String row : Rows.twoFiles(14).split("\n")) {
            full.add(row.split("->")[0].strip());
        }
        full.addAll(List.of("write /b 440 8 -1", "spoil 2 1 255"));
        Run.same("the last byte before", Played.image(full)[2047], 255);
        full.add("format");
        Run.same("format of a full disk", Arrays.equals(Played.image(full), fresh()), true);
        Run.same("format twice", Arrays.equals(Played.image(List.of("format", "format")), fresh()),
                true);
        Run.due("format makes the disk clean", """
                create /a -> 2
                spoil 0 2 0 -> true
                count 2 -> 0
                format -> done
                count 2 -> 1
                check false -> 0
                stat /a 0 -> throws.NoSuchElementException
                stat / 0 -> 1
                count 0 -> 14
                count 1 -> 54
                """);
        Run.due("format leaves the paths", """
                create /b -> 2
                text /b -> 2
                keep -> 2
                text /a -> 2
                format -> done
                type 97 -> 3
                create -> 2
                create /b -> 3
                text /c -> 2
                link -> 2
                """);
        Run.due("format leaves a path B that leads to the root", """
                text / -> 1
                keep -> 1
                spoil 0 2 0 -> true
                format -> done
                text /c -> 2
                rename -> throws.UnsupportedOperationException
                """);
    }

    private static void byteAt() {
        Run.due("byteAt", """
                byteAt 0 -> 77
                byteAt 11 -> 1
                byteAt 2047 -> 0
                byteAt 2048 -> -1
                byteAt -1 -> -1
                byteAt 2147483647 -> -1
                byteAt -2147483648 -> -1
                create /a -> 2
                write /a 0 2 65408 -> 2
                bytes 320 2 -> 128 255
                spoil 2 2 255 -> true
                byteAt 65 -> 255
                byteAt 11 -> 0
                """);
    }

    private static void count() {
        Run.due("count", """
                count 0 -> 14
                count 1 -> 54
                count 2 -> 1
                count 3 -> -1
                count -1 -> -1
                count 2147483647 -> -1
                count -2147483648 -> -1
                create /a -> 2
                count 0 -> 13
                count 1 -> 54
                makeDirectory /d -> 3
                count 0 -> 12
                count 1 -> 53
                spoil 0 15 0 -> true
                count 0 -> 11
                spoil 1 9 0 -> true
                count 1 -> 54
                count 2 -> 0
                """);
        Run.due("no inode is left", Rows.files("", 'a', 13, 2) + """
                count 0 -> 1
                create /n -> 15
                count 0 -> 0
                spoil 0 2 0 -> true
                count 0 -> 1
                """);
        Run.due("no block is left", Rows.twoFiles(12) + """
                count 1 -> 2
                write /b 412 8 -1 -> 420
                count 1 -> 0
                spoil 1 63 0 -> true
                count 1 -> 1
                """);
        StringBuilder all = new StringBuilder();
        for (int i = 2; i < 16; i++) {
            all.append("spoil 0 " + i + " 0 -> true\n");
        }
        for (int i = 10; i < 64; i++) {
            all.append("spoil 1 " + i + " 0 -> true\n");
        }
        Run.due("count goes by the maps, not by the tree", all + """
                count 0 -> 0
                count 1 -> 0
                spoil 0 1 0 -> true
                count 0 -> 1
                spoil 1 9 0 -> true
                count 1 -> 1
                """);
    }
}
