import java.util.Arrays;
import java.util.List;

/** Promises 1 and 2 (a new object, format), 17 (byteAt) and 18 (count). */
final class FormatTest {
    public static void main(String[] args) {
        newObject();
        format();
        byteAt();
        count();
        Run.end();
    }

    private static int[] fresh() {
        int[] image = new int[2048];
        int[] head = {77, 3, 0, 255, 3, 0, 0, 0, 0, 0, 0, 1};
        int[] root = {2, 2, 16, 0, 9};
        int[] slots = {1, '.', 0, 0, 0, 0, 0, 0, 1, '.', '.'};
        System.arraycopy(head, 0, image, 0, head.length);
        System.arraycopy(root, 0, image, 48, root.length);
        System.arraycopy(slots, 0, image, 288, slots.length);
        return image;
    }

    private static void newObject() {
        Run.same("a new disk", Arrays.equals(Played.image(List.of()), fresh()), true);
        Run.due("a new object has empty paths", """
                keep -> 0
                create -> throws.NoSuchElementException
                type 47 -> 1
                """);
        Run.due("path B is empty at first", """
                text /a -> 2
                link -> throws.NoSuchElementException
                """);
    }

    private static void format() {
        List<String> calls = List.of("create /a", "write /a 28 8 -1", "write /a 190 8 -1",
                "makeDirectory /d", "create /d/e", "spoil 1 40 0", "format");
        Run.same("format leaves the root alone",
                Arrays.equals(Played.image(calls), fresh()), true);
        Run.due("format makes the disk clean", """
                create /a -> 2
                spoil 0 2 0 -> true
                count 2 -> 0
                format -> done
                count 2 -> 1
                check false -> 0
                stat /a 0 -> throws.NoSuchElementException
                stat / 0 -> 1
                count 0 -> 14
                count 1 -> 54
                """);
        Run.due("format leaves the paths", """
                create /b -> 2
                text /b -> 2
                keep -> 2
                text /a -> 2
                format -> done
                type 97 -> 3
                create -> 2
                """);
    }

    private static void byteAt() {
        Run.due("byteAt", """
                byteAt 0 -> 77
                byteAt 11 -> 1
                byteAt 2047 -> 0
                byteAt 2048 -> -1
                byteAt -1 -> -1
                byteAt 2147483647 -> -1
                byteAt -2147483648 -> -1
                create /a -> 2
                write /a 0 2 65408 -> 2
                bytes 320 2 -> 128 255
                spoil 2 2 255 -> true
                byteAt 65 -> 255
                byteAt 11 -> 0
                """);
    }

    private static void count() {
        Run.due("count", """
                count 0 -> 14
                count 1 -> 54
                count 2 -> 1
                count 3 -> -1
                count -1 -> -1
                count 2147483647 -> -1
                create /a -> 2
                count 0 -> 13
                count 1 -> 54
                makeDirectory /d -> 3
                count 0 -> 12
                count 1 -> 53
                spoil 0 15 0 -> true
                count 0 -> 11
                spoil 1 9 0 -> true
                count 1 -> 54
                count 2 -> 0
                """);
    }
}
