import java.util.ArrayList;
import java.util.List;
import java.util.TreeMap;
import java.util.TreeSet;

/** What the document's terms say of a disk, looked at from its bytes alone. */
final class Terms {
    private final int[] image;
    private final List<String> faults = new ArrayList<>();
    private final TreeMap<Integer, Integer> links = new TreeMap<>();
    private final TreeSet<Integer> blocks = new TreeSet<>();

    private Terms(int[] image) {
        this.image = image;
    }

    /** What is not as it should be; a disk that isn't clean may have wrong bits and links. */
    static List<String> faults(int[] image) {
        Terms terms = new Terms(image);
        terms.holds("byte 0 is 77", image[0] == 77);
        terms.holds("byte 11 is 0 or 1", image[11] == 0 || image[11] == 1);
        terms.all(image[11] == 1);
        return terms.faults;
    }

    private void holds(String what, boolean so) {
        if (!so) {
            faults.add("not so: " + what);
        }
    }

    private void all(boolean isClean) {
        zeros("the rest of block 0", 12, 32);
        zeros("inode 0", 32, 48);
        for (int block = 0; block <= 8; block++) {
            blocks.add(block);
        }
        directory(1, 1);
        for (int i = 1; i < 16; i++) {
            boolean isTaken = links.containsKey(i);
            holds("the map has inode " + i + ": " + isTaken, !isClean || bit(1, i) == isTaken);
            if (isTaken) {
                holds("links of " + i, !isClean || image[at(i) + 1] == links.get(i));
            } else {
                zeros("inode " + i, at(i), at(i) + 16);
            }
        }
        holds("the map has inode 0", bit(1, 0));
        for (int i = 0; i < 64; i++) {
            boolean canBeWrong = !isClean && i >= 9;
            holds("the map has block " + i + ": " + blocks.contains(i),
                    canBeWrong || bit(3, i) == blocks.contains(i));
        }
    }

    private void directory(int inode, int above) {
        holds("kind of directory " + inode, image[at(inode)] == 2);
        int size = pages(inode);
        holds("slots of " + inode, size % 8 == 0 && size >= 16 && size <= 192);
        holds("no indirect block in directory " + inode, image[at(inode) + 10] == 0);
        for (int page = 0; page < 6; page++) {
            holds("page " + page + " of directory " + inode,
                    image[at(inode) + 4 + page] != 0 == page * 32 < size);
        }
        holds("slot 0 of " + inode, slot(inode, 0).equals(inode + " ."));
        holds("slot 1 of " + inode, slot(inode, 1).equals(above + " .."));
        TreeSet<String> names = new TreeSet<>();
        for (int k = 0; k < size / 8; k++) {
            String[] slot = slot(inode, k).split(" ", 2);
            int leadsTo = Integer.parseInt(slot[0]);
            if (leadsTo == 0) {
                holds("free slot " + k + " of " + inode, slot[1].isEmpty());
                continue;
            }
            boolean isNew = links.merge(leadsTo, 1, Integer::sum) == 1;
            if (k >= 2) {
                holds("name " + slot[1], slot[1].matches("[a-z]{1,7}") && names.add(slot[1]));
                leadsTo(leadsTo, inode, isNew);
            }
        }
        for (int i = size; size % 32 != 0 && i < (size + 31) / 32 * 32; i++) {
            holds("0 behind the slots of " + inode, byteOf(inode, i) == 0);
        }
    }

    private void leadsTo(int inode, int from, boolean isNew) {
        if (image[at(inode)] == 2) {
            holds("one name of directory " + inode, isNew);
            directory(inode, from);
        } else if (isNew) {
            holds("kind of file " + inode, image[at(inode)] == 1);
            file(inode);
        }
    }

    private void file(int inode) {
        int size = pages(inode);
        holds("size of file " + inode, size <= 1216);
        boolean hasIndirect = image[at(inode) + 10] != 0;
        boolean hasIndirectPage = false;
        for (int page = 0; page < 38; page++) {
            int block = block(inode, page);
            holds("page " + page + " of " + inode + " lies before its end",
                    block == 0 || page * 32 < size);
            hasIndirectPage |= page >= 6 && block != 0;
        }
        holds("the indirect block of " + inode, hasIndirect == hasIndirectPage);
        for (int i = size; i < (size + 31) / 32 * 32; i++) {
            holds("0 behind the end of " + inode, byteOf(inode, i) == 0);
        }
    }

    /** Counts the blocks of an inode in; its size. */
    private int pages(int inode) {
        own(inode, image[at(inode) + 10]);
        for (int page = 0; page < 38; page++) {
            own(inode, block(inode, page));
        }
        zeros("bytes 11 .. 15 of inode " + inode, at(inode) + 11, at(inode) + 16);
        return image[at(inode) + 2] + 256 * image[at(inode) + 3];
    }

    private void own(int inode, int block) {
        if (block != 0) {
            holds("block " + block + " is of " + inode + " alone", block < 64 && blocks.add(block));
        }
    }

    private int block(int inode, int page) {
        if (page < 6) {
            return image[at(inode) + 4 + page];
        }
        int indirect = image[at(inode) + 10];
        return indirect == 0 ? 0 : image[indirect * 32 + page - 6];
    }

    private int byteOf(int inode, int i) {
        int block = block(inode, i / 32);
        return block == 0 ? 0 : image[block * 32 + i % 32];
    }

    private String slot(int inode, int k) {
        StringBuilder name = new StringBuilder();
        boolean ended = false;
        for (int i = 8 * k + 1; i < 8 * k + 8; i++) {
            int c = byteOf(inode, i);
            ended |= c == 0;
            name.append(ended ? c == 0 ? "" : "?" : "" + (char) c);
        }
        return byteOf(inode, 8 * k) + " " + name;
    }

    private static int at(int inode) {
        return 32 + 16 * inode;
    }

    private boolean bit(int from, int i) {
        return (image[from + i / 8] >> i % 8 & 1) == 1;
    }

    private void zeros(String what, int from, int to) {
        for (int i = from; i < to; i++) {
            holds(what + " is 0", image[i] == 0);
        }
    }
}
