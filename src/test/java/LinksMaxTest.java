import java.lang.reflect.Field;
import java.util.function.Supplier;

/**
 * Promise 7: a file with 255 links gets no more. No run of calls comes so far (55 blocks hold 220
 * slots at most), so the link count is put into the disk's bytes from outside, wherever the object
 * holds them, while the disk stays clean.
 */
final class LinksMaxTest {
    private static final int LINKS_OF_INODE_2 = 32 + 2 * 16 + 1;

    private final InodeDisk disk = new InodeDisk();

    public static void main(String[] args) throws IllegalAccessException {
        for (int links = 253; links <= 255; links++) {
            new LinksMaxTest().link(links);
        }
        Run.end();
    }

    private void link(int links) throws IllegalAccessException {
        type("/f");
        disk.create();
        bytes(disk)[LINKS_OF_INODE_2] = (byte) links;
        Run.same("links before", disk.byteAt(LINKS_OF_INODE_2), links);
        due("link /f /x/y", this::typeNowhere, "throws.NoSuchElementException", links);
        if (links == 255) {
            due("link /f /g", this::typeNew, "throws.IllegalStateException", links);
            Run.same("path A", disk.keep(), 0);
            Run.same("the size of the root", disk.byteAt(50), 24);
        } else {
            due("link /f /g", this::typeNew, "" + (links + 1), links + 1);
            Run.same("the size of the root", disk.byteAt(50), 32);
        }
    }

    private void due(String what, Runnable typing, String answer, int linksThen) {
        typing.run();
        Supplier<Integer> link = disk::link;
        Run.same(what, Played.told(link), answer);
        Run.same("links after " + what, disk.byteAt(LINKS_OF_INODE_2), linksThen);
        Run.same("clean after " + what, disk.count(2), 1);
    }

    private void typeNew() {
        type("/f");
        disk.keep();
        type("/g");
    }

    private void typeNowhere() {
        type("/f");
        disk.keep();
        type("/x/y");
    }

    private void type(String text) {
        for (char c : text.toCharArray()) {
            disk.type(c);
        }
    }

    /** The row of 2048 bytes that an object has, itself or in an object of its own. */
    private static byte[] bytes(Object holder) throws IllegalAccessException {
        for (Field field : holder.getClass().getDeclaredFields()) {
            field.setAccessible(true);
            Object value = field.get(holder);
            if (value instanceof byte[] row && row.length == 2048) {
                return row;
            }
            if (value != null && value.getClass().getName().startsWith("InodeDisk$")) {
                byte[] inside = bytes(value);
                if (inside.length > 0) {
                    return inside;
                }
            }
        }
        return new byte[0];
    }
}
