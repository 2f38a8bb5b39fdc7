import java.util.ArrayList;
import java.util.Arrays;
import java.util.List;
import java.util.NoSuchElementException;
import java.util.TreeMap;
import java.util.TreeSet;

/**
 * The document once more, in objects instead of bytes: the tree is held as nodes, and the disk is
 * drawn from it after every call. What is free keeps what was drawn there before.
 */
final class Model {
    private static final class Node {
        int number;
        int kind;
        int links;
        int size;
        int indirect;
        final int[] pages = new int[38];
        final int[] bytes = new int[1216];
        final List<Slot> slots = new ArrayList<>();
    }

    private record Slot(Node node, String name) {
    }

    private final int[] image = new int[2048];
    private final TreeMap<Integer, Node> nodes = new TreeMap<>();
    private final TreeSet<Integer> inodesLeft = new TreeSet<>();
    private final TreeSet<Integer> blocksLeft = new TreeSet<>();
    private boolean clean;

    Model() {
        format();
    }

    int[] image() {
        return image.clone();
    }

    void format() {
        Arrays.fill(image, 0);
        nodes.clear();
        for (int i = 1; i < 16; i++) {
            inodesLeft.add(i);
        }
        for (int i = 9; i < 64; i++) {
            blocksLeft.add(i);
        }
        clean = true;
        newDirectory(null);
        draw();
    }

    int create(String a) {
        Node above = above(a);
        refuseNew(above, a, true, 0);
        Node node = newNode(1);
        putName(above, node, last(a));
        draw();
        return node.number;
    }

    int makeDirectory(String a) {
        Node above = above(a);
        refuseNew(above, a, true, 1);
        Node node = newDirectory(above);
        putName(above, node, last(a));
        draw();
        return node.number;
    }

    int link(String b, String a) {
        Node above = above(a);
        Node file = file(b);
        refuseNew(above, a, false, 0);
        putName(above, file, last(a));
        draw();
        return file.links;
    }

    int unlink(String a) {
        Node file = file(a);
        freeName(above(a), last(a));
        draw();
        int left = file.links;
        if (left == 0) {
            drop(file);
        }
        return left;
    }

    int removeDirectory(String a) {
        Node node = thing(a);
        if (node.kind == 1 || node.number == 1) {
            throw new UnsupportedOperationException();
        }
        for (Slot slot : node.slots.subList(2, node.slots.size())) {
            if (slot != null) {
                throw new IllegalArgumentException();
            }
        }
        freeName(above(a), last(a));
        drop(node);
        return (int) nodes.values().stream().filter(n -> n.kind == 2).count();
    }

    int rename(String b, String a) {
        Node above = above(a);
        Node node = thing(b);
        if (node.number == 1) {
            throw new UnsupportedOperationException();
        }
        if (node.kind == 2 && isUnder(node, above)) {
            throw new IllegalArgumentException();
        }
        refuseNew(above, a, false, 0);
        Node before = above(b);
        putName(above, node, last(a));
        freeName(before, last(b));
        if (node.kind == 2) {
            node.slots.set(1, new Slot(above, ".."));
        }
        draw();
        return node.number;
    }

    int write(String a, int offset, int n, long w) {
        Node file = file(a);
        if (n < 1 || n > 8 || offset < 0 || (long) offset + n > 1216) {
            throw new IllegalArgumentException();
        }
        TreeSet<Integer> holes = new TreeSet<>();
        for (int i = offset; i < offset + n; i++) {
            if (file.pages[i / 32] == 0) {
                holes.add(i / 32);
            }
        }
        boolean needsIndirect = file.indirect == 0 && !holes.tailSet(6).isEmpty();
        if (holes.size() + (needsIndirect ? 1 : 0) > blocksLeft.size()) {
            throw new IllegalStateException();
        }
        for (int page : holes) {
            if (page >= 6 && file.indirect == 0) {
                file.indirect = takeBlock();
            }
            file.pages[page] = takeBlock();
        }
        for (int k = 0; k < n; k++) {
            file.bytes[offset + k] = (int) (w >> 8 * k & 255);
        }
        file.size = Math.max(file.size, offset + n);
        draw();
        return file.size;
    }

    long read(String a, int offset) {
        Node file = file(a);
        if (offset < 0) {
            throw new IllegalArgumentException();
        }
        long word = 0;
        for (int k = 7; k >= 0; k--) {
            long i = (long) offset + k;
            word = word * 256 + (i < file.size ? file.bytes[(int) i] : 0);
        }
        return word;
    }

    int truncate(String a, int size) {
        Node file = file(a);
        if (size < 0 || size > 1216) {
            throw new IllegalArgumentException();
        }
        int before = file.size;
        file.size = size;
        Arrays.fill(file.bytes, size, 1216, 0);
        boolean hasIndirectPage = false;
        for (int page = 0; page < 38; page++) {
            if (page * 32 >= size && file.pages[page] != 0) {
                blocksLeft.add(file.pages[page]);
                file.pages[page] = 0;
            }
            hasIndirectPage |= page >= 6 && file.pages[page] != 0;
        }
        if (!hasIndirectPage) {
            dropIndirect(file);
        }
        draw();
        return before;
    }

    int stat(String a, int what) {
        Node node = thing(a);
        return switch (what) {
            case 0 -> node.number;
            case 1 -> node.kind;
            case 2 -> node.links;
            case 3 -> size(node);
            case 4 -> blocks(node).size();
            default -> throw new IllegalArgumentException();
        };
    }

    boolean spoil(int kind, int i, int v) {
        boolean isInode = i >= 1 && i <= 15;
        if (kind == 0 && isInode) {
            turn(inodesLeft, i);
        } else if (kind == 1 && i >= 9 && i <= 63) {
            turn(blocksLeft, i);
        } else if (kind == 2 && isInode && nodes.containsKey(i) && v >= 0 && v <= 255) {
            nodes.get(i).links = v;
        } else {
            return false;
        }
        clean = false;
        draw();
        return true;
    }

    int check(boolean repair) {
        TreeSet<Integer> inodes = new TreeSet<>();
        TreeSet<Integer> blocks = new TreeSet<>();
        for (int i = 1; i < 16; i++) {
            if (!nodes.containsKey(i)) {
                inodes.add(i);
            }
        }
        for (int i = 9; i < 64; i++) {
            blocks.add(i);
        }
        int wrong = 0;
        for (Node node : nodes.values()) {
            blocks.removeAll(blocks(node));
            wrong += node.links == counted(node) ? 0 : 1;
        }
        wrong += differ(inodes, inodesLeft) + differ(blocks, blocksLeft);
        if (repair) {
            inodesLeft.clear();
            inodesLeft.addAll(inodes);
            blocksLeft.clear();
            blocksLeft.addAll(blocks);
            clean = true;
            draw();
        }
        return wrong;
    }

    int count(int what) {
        return switch (what) {
            case 0 -> inodesLeft.size();
            case 1 -> blocksLeft.size();
            case 2 -> clean ? 1 : 0;
            default -> -1;
        };
    }

    private static int differ(TreeSet<Integer> one, TreeSet<Integer> other) {
        TreeSet<Integer> both = new TreeSet<>(one);
        both.retainAll(other);
        return one.size() + other.size() - 2 * both.size();
    }

    private static void turn(TreeSet<Integer> set, int i) {
        if (!set.remove(i)) {
            set.add(i);
        }
    }

    private Node lead(String path) {
        if (!path.matches("/|(/[a-z]{1,7})+")) {
            return null;
        }
        Node node = nodes.get(1);
        for (String name : path.substring(1).split("/")) {
            if (!name.isEmpty()) {
                node = node == null ? null : named(node, name);
            }
        }
        return node;
    }

    private static Node named(Node directory, String name) {
        for (Slot slot : directory.slots) {
            if (slot != null && slot.name.equals(name)) {
                return slot.node;
            }
        }
        return null;
    }

    private Node thing(String path) {
        requireClean();
        Node node = lead(path);
        if (node == null) {
            throw new NoSuchElementException();
        }
        return node;
    }

    private Node file(String path) {
        Node node = thing(path);
        if (node.kind == 2) {
            throw new UnsupportedOperationException();
        }
        return node;
    }

    private Node above(String path) {
        requireClean();
        if (!path.matches("(/[a-z]{1,7})+")) {
            throw new NoSuchElementException();
        }
        Node node = lead(path.substring(0, Math.max(1, path.lastIndexOf('/'))));
        if (node == null || node.kind != 2) {
            throw new NoSuchElementException();
        }
        return node;
    }

    private static String last(String path) {
        return path.substring(path.lastIndexOf('/') + 1);
    }

    private void requireClean() {
        if (!clean) {
            throw new IllegalStateException();
        }
    }

    private void refuseNew(Node above, String path, boolean needsInode, int blocks) {
        boolean hasFree = above.slots.subList(2, above.slots.size()).contains(null);
        int slotBlocks = !hasFree && above.slots.size() % 4 == 0 ? 1 : 0;
        if (named(above, last(path)) != null
                || needsInode && inodesLeft.isEmpty()
                || !hasFree && above.slots.size() == 24
                || slotBlocks + blocks > blocksLeft.size()) {
            throw new IllegalStateException();
        }
    }

    private static boolean isUnder(Node top, Node node) {
        if (node == top) {
            return true;
        }
        for (Slot slot : top.slots.subList(2, top.slots.size())) {
            if (slot != null && slot.node.kind == 2 && isUnder(slot.node, node)) {
                return true;
            }
        }
        return false;
    }

    private Node newNode(int kind) {
        Node node = new Node();
        node.number = inodesLeft.pollFirst();
        node.kind = kind;
        nodes.put(node.number, node);
        return node;
    }

    private Node newDirectory(Node above) {
        Node node = newNode(2);
        node.pages[0] = takeBlock();
        node.slots.add(new Slot(node, "."));
        node.slots.add(new Slot(above == null ? node : above, ".."));
        return node;
    }

    private int takeBlock() {
        int block = blocksLeft.pollFirst();
        Arrays.fill(image, 32 * block, 32 * block + 32, 0);
        return block;
    }

    private void putName(Node directory, Node node, String name) {
        Slot slot = new Slot(node, name);
        int free = directory.slots.subList(2, directory.slots.size()).indexOf(null);
        if (free >= 0) {
            directory.slots.set(2 + free, slot);
            return;
        }
        if (directory.slots.size() % 4 == 0) {
            directory.pages[directory.slots.size() / 4] = takeBlock();
        }
        directory.slots.add(slot);
    }

    private static void freeName(Node directory, String name) {
        for (int k = 2; k < directory.slots.size(); k++) {
            Slot slot = directory.slots.get(k);
            if (slot != null && slot.name.equals(name)) {
                directory.slots.set(k, null);
                return;
            }
        }
    }

    private void drop(Node node) {
        for (int page : node.pages) {
            if (page != 0) {
                blocksLeft.add(page);
            }
        }
        dropIndirect(node);
        nodes.remove(node.number);
        inodesLeft.add(node.number);
        draw();
    }

    private void dropIndirect(Node node) {
        if (node.indirect != 0) {
            Arrays.fill(image, 32 * node.indirect, 32 * node.indirect + 32, 0);
            blocksLeft.add(node.indirect);
            node.indirect = 0;
        }
    }

    private int counted(Node node) {
        int found = 0;
        for (Node directory : nodes.values()) {
            for (Slot slot : directory.slots) {
                found += slot != null && slot.node == node ? 1 : 0;
            }
        }
        return found;
    }

    private static int size(Node node) {
        return node.kind == 2 ? 8 * node.slots.size() : node.size;
    }

    private static TreeSet<Integer> blocks(Node node) {
        TreeSet<Integer> blocks = new TreeSet<>();
        blocks.add(node.indirect);
        for (int page : node.pages) {
            blocks.add(page);
        }
        blocks.remove(0);
        return blocks;
    }

    private void draw() {
        Arrays.fill(image, 0, 288, 0);
        image[0] = 77;
        image[11] = clean ? 1 : 0;
        drawMap(1, 16, inodesLeft);
        drawMap(3, 64, blocksLeft);
        for (Node node : nodes.values()) {
            if (clean) {
                node.links = counted(node);
            }
            drawNode(node);
        }
    }

    private void drawMap(int at, int n, TreeSet<Integer> left) {
        for (int i = 0; i < n; i++) {
            image[at + i / 8] += left.contains(i) ? 0 : 1 << i % 8;
        }
    }

    private void drawNode(Node node) {
        int at = 32 + 16 * node.number;
        image[at] = node.kind;
        image[at + 1] = node.links;
        image[at + 2] = size(node) % 256;
        image[at + 3] = size(node) / 256;
        image[at + 10] = node.indirect;
        for (int page = 0; page < 38; page++) {
            if (page < 6) {
                image[at + 4 + page] = node.pages[page];
            } else if (node.indirect != 0) {
                image[32 * node.indirect + page - 6] = node.pages[page];
            }
            if (node.kind == 1 && node.pages[page] != 0) {
                System.arraycopy(node.bytes, 32 * page, image, 32 * node.pages[page], 32);
            }
        }
        for (int k = 0; k < node.slots.size(); k++) {
            drawSlot(node.slots.get(k), 32 * node.pages[k / 4] + k % 4 * 8);
        }
    }

    private void drawSlot(Slot slot, int at) {
        Arrays.fill(image, at, at + 8, 0);
        if (slot != null) {
            image[at] = slot.node.number;
            for (int k = 0; k < slot.name.length(); k++) {
                image[at + 1 + k] = slot.name.charAt(k);
            }
        }
    }
}
