import java.util.NoSuchElementException;

/**
 * A small disk with a file system, byte for byte.
 *
 * <p>All state but the two paths stands in the disk's bytes. The number 0 stands for "none"
 * throughout: inode 0 and block 0 are never given away, and no name lies in slot 0.
 */
public final class InodeDisk {
    private static final int DISK_SIZE = 2048;
    private static final int BLOCK_SIZE = 32;
    private static final int BLOCKS = 64;
    private static final int FIRST_BLOCK = 9;
    private static final int INODES = 16;
    private static final int ROOT = 1;

    private static final int MARK = 77;
    private static final int INODE_MAP_AT = 1;
    private static final int BLOCK_MAP_AT = 3;
    private static final int CLEAN_AT = 11;
    private static final int INODES_AT = 32;

    private static final int INODE_SIZE = 16;
    private static final int LINKS_AT = 1;
    private static final int SIZE_AT = 2;
    private static final int PAGES_AT = 4;
    private static final int INDIRECT_AT = 10;

    private static final int FILE = 1;
    private static final int DIRECTORY = 2;
    private static final int LINKS_MAX = 255;
    private static final int DIRECT_PAGES = 6;
    private static final int PAGES = 38;
    private static final int FILE_MAX = PAGES * BLOCK_SIZE;

    private static final int SLOT_SIZE = 8;
    private static final int SLOTS_IN_BLOCK = 4;
    private static final int SLOTS_MAX = 24;
    private static final int ABOVE_SLOT = 1;
    private static final int FIRST_NAME_SLOT = 2;
    private static final int NAME_MAX = 7;
    private static final int PATH_MAX = 40;
    private static final int WORD_SIZE = 8;

    private static final byte[] ITSELF = {'.', 0, 0, 0, 0, 0, 0};
    private static final byte[] ABOVE = {'.', '.', 0, 0, 0, 0, 0};

    private final Bytes bytes;
    private final TakenMap inodeMap;
    private final TakenMap blockMap;
    private final Inodes inodes;
    private final Directories directories;
    private final Survey survey;
    private final Path pathA;
    private final Path pathB;
    private final Place placeA;
    private final Place placeB;

    public InodeDisk() {
        bytes = new Bytes();
        inodeMap = new TakenMap(bytes, INODE_MAP_AT, ROOT, INODES);
        blockMap = new TakenMap(bytes, BLOCK_MAP_AT, FIRST_BLOCK, BLOCKS);
        inodes = new Inodes(bytes, inodeMap, blockMap);
        directories = new Directories(bytes, inodes);
        survey = new Survey(inodes, directories);
        pathA = new Path();
        pathB = new Path();
        placeA = new Place();
        placeB = new Place();
        format();
    }

    public void format() {
        bytes.clear(0, DISK_SIZE);
        bytes.put(0, MARK);
        inodeMap.start();
        blockMap.start();
        int root = inodes.take(DIRECTORY);
        directories.start(root, root);
        setClean(true);
    }

    public int type(char c) {
        return pathA.add(c);
    }

    public int keep() {
        pathB.become(pathA);
        pathA.empty();
        return pathB.length();
    }

    public int create() throws IllegalStateException, NoSuchElementException {
        takePathA();
        requireNewName();
        requireInode();
        requireNewSlot(0);
        int file = inodes.take(FILE);
        directories.add(placeA.parent, file, placeA.name);
        return file;
    }

    public int makeDirectory() throws IllegalStateException, NoSuchElementException {
        takePathA();
        requireNewName();
        requireInode();
        requireNewSlot(1);
        int directory = inodes.take(DIRECTORY);
        directories.start(directory, placeA.parent);
        directories.add(placeA.parent, directory, placeA.name);
        return directory;
    }

    public int link()
            throws IllegalStateException, NoSuchElementException, UnsupportedOperationException {
        takePathA();
        takePathB();
        requireNewName();
        int file = fileAt(placeB);
        if (inodes.links(file) >= LINKS_MAX) {
            throw new IllegalStateException("the file has 255 links");
        }
        requireNewSlot(0);
        directories.add(placeA.parent, file, placeA.name);
        return inodes.links(file);
    }

    public int unlink()
            throws IllegalStateException, NoSuchElementException, UnsupportedOperationException {
        takePathA();
        int file = fileAt(placeA);
        directories.free(placeA.parent, placeA.slot);
        int left = inodes.links(file);
        if (left == 0) {
            inodes.giveBack(file);
        }
        return left;
    }

    public int removeDirectory()
            throws IllegalStateException, NoSuchElementException, UnsupportedOperationException,
                    IllegalArgumentException {
        takePathA();
        int directory = thingAt(placeA);
        if (inodes.kind(directory) != DIRECTORY || directory == ROOT) {
            throw new UnsupportedOperationException("a file, or the root");
        }
        if (!directories.isEmpty(directory)) {
            throw new IllegalArgumentException("the directory isn't empty");
        }
        directories.free(placeA.parent, placeA.slot);
        // The page keeps its bytes, so the slot ".." is not freed: only its link is counted off.
        inodes.addLinks(placeA.parent, -1);
        inodes.giveBack(directory);
        return inodes.howMany(DIRECTORY);
    }

    public int rename()
            throws IllegalStateException, NoSuchElementException, UnsupportedOperationException,
                    IllegalArgumentException {
        takePathA();
        takePathB();
        requireNewName();
        int moved = thingAt(placeB);
        if (moved == ROOT) {
            throw new UnsupportedOperationException("the root has no name");
        }
        boolean isDirectory = inodes.kind(moved) == DIRECTORY;
        if (isDirectory && directories.liesIn(placeA.parent, moved)) {
            throw new IllegalArgumentException("a directory can't lie in itself");
        }
        requireNewSlot(0);
        directories.add(placeA.parent, moved, placeA.name);
        directories.free(placeB.parent, placeB.slot);
        if (isDirectory) {
            directories.putUnder(moved, placeA.parent);
        }
        return moved;
    }

    public int write(int offset, int n, long w)
            throws IllegalStateException, NoSuchElementException, UnsupportedOperationException,
                    IllegalArgumentException {
        takePathA();
        int file = fileAt(placeA);
        if (n < 1 || n > WORD_SIZE || offset < 0 || offset > FILE_MAX - n) {
            throw new IllegalArgumentException("no such bytes in a file");
        }
        int end = offset + n;
        int firstPage = offset / BLOCK_SIZE;
        int lastPage = (end - 1) / BLOCK_SIZE;
        if (inodes.blocksWanted(file, firstPage, lastPage) > blockMap.left()) {
            throw new IllegalStateException("too few blocks are left");
        }
        for (int page = firstPage; page <= lastPage; page++) {
            inodes.fillHole(file, page);
        }
        for (int k = 0; k < n; k++) {
            inodes.putByte(file, offset + k, (int) (w >>> (8 * k)));
        }
        inodes.setSize(file, Math.max(inodes.size(file), end));
        return inodes.size(file);
    }

    public long read(int offset)
            throws IllegalStateException, NoSuchElementException, UnsupportedOperationException,
                    IllegalArgumentException {
        takePathA();
        int file = fileAt(placeA);
        if (offset < 0) {
            throw new IllegalArgumentException("offset below 0");
        }
        int n = Math.min(WORD_SIZE, inodes.size(file) - offset);
        long word = 0;
        for (int k = 0; k < n; k++) {
            word |= (long) inodes.getByte(file, offset + k) << (8 * k);
        }
        return word;
    }

    public int truncate(int size)
            throws IllegalStateException, NoSuchElementException, UnsupportedOperationException,
                    IllegalArgumentException {
        takePathA();
        int file = fileAt(placeA);
        if (size < 0 || size > FILE_MAX) {
            throw new IllegalArgumentException("no such size of a file");
        }
        int before = inodes.size(file);
        int pagesLeft = (size + BLOCK_SIZE - 1) / BLOCK_SIZE;
        inodes.dropPages(file, pagesLeft);
        for (int i = size; i < pagesLeft * BLOCK_SIZE; i++) {
            inodes.putByte(file, i, 0);
        }
        inodes.setSize(file, size);
        return before;
    }

    public int stat(int what)
            throws IllegalStateException, NoSuchElementException, IllegalArgumentException {
        takePathA();
        int inode = thingAt(placeA);
        switch (what) {
            case 0:
                return inode;
            case 1:
                return inodes.kind(inode);
            case 2:
                return inodes.links(inode);
            case 3:
                return inodes.size(inode);
            case 4:
                return inodes.blocks(inode);
            default:
                throw new IllegalArgumentException("nothing to tell");
        }
    }

    public boolean spoil(int kind, int i, int v) {
        boolean done = false;
        if (kind == 0) {
            done = spoilMap(inodeMap, i);
        } else if (kind == 1) {
            done = spoilMap(blockMap, i);
        } else if (kind == 2) {
            done = spoilLinks(i, v);
        }
        if (done) {
            setClean(false);
        }
        return done;
    }

    public int check(boolean repair) {
        survey.goThroughTree();
        int wrong =
                survey.wrongInodes(inodeMap, repair)
                        + survey.wrongBlocks(blockMap, repair)
                        + survey.wrongLinks(repair);
        if (repair) {
            setClean(true);
        }
        return wrong;
    }

    public int byteAt(int i) {
        return i >= 0 && i < DISK_SIZE ? bytes.get(i) : -1;
    }

    public int count(int what) {
        switch (what) {
            case 0:
                return inodeMap.left();
            case 1:
                return blockMap.left();
            case 2:
                return bytes.get(CLEAN_AT);
            default:
                return -1;
        }
    }

    private void setClean(boolean clean) {
        bytes.put(CLEAN_AT, clean ? 1 : 0);
    }

    // Paths are followed before the disk is known to be clean, as they must be empty then anyway;
    // a spoiled disk has wrong maps and link counts alone, so following them is safe.
    private void takePathA() {
        directories.follow(pathA, placeA);
        pathA.empty();
    }

    private void takePathB() {
        directories.follow(pathB, placeB);
        pathB.empty();
    }

    private void requireClean() {
        if (bytes.get(CLEAN_AT) == 0) {
            throw new IllegalStateException("the disk isn't clean");
        }
    }

    private void requireNewName() {
        requireClean();
        if (placeA.parent == 0) {
            throw new NoSuchElementException("no new name");
        }
    }

    private void requireInode() {
        if (inodeMap.left() == 0) {
            throw new IllegalStateException("no inode is left");
        }
    }

    private void requireNewSlot(int blocksBesides) {
        if (placeA.inode != 0) {
            throw new IllegalStateException("the name is there");
        }
        if (!directories.hasRoom(placeA.parent, blocksBesides)) {
            throw new IllegalStateException("no room for a slot");
        }
    }

    private int thingAt(Place place) {
        requireClean();
        if (place.inode == 0) {
            throw new NoSuchElementException("the path leads to nothing");
        }
        return place.inode;
    }

    private int fileAt(Place place) {
        int inode = thingAt(place);
        if (inodes.kind(inode) == DIRECTORY) {
            throw new UnsupportedOperationException("a directory");
        }
        return inode;
    }

    private boolean spoilMap(TakenMap map, int i) {
        if (!map.canChange(i)) {
            return false;
        }
        map.turn(i);
        return true;
    }

    private boolean spoilLinks(int i, int v) {
        if (!inodeMap.canChange(i) || inodes.kind(i) == 0 || v < 0 || v > LINKS_MAX) {
            return false;
        }
        inodes.setLinks(i, v);
        return true;
    }

    /** The bytes of the disk. Every index is looked at, so that no number can make a call throw. */
    private static final class Bytes {
        private final byte[] cells;

        Bytes() {
            cells = new byte[DISK_SIZE];
        }

        int get(int i) {
            return i >= 0 && i < cells.length ? cells[i] & 255 : 0;
        }

        void put(int i, int value) {
            if (i >= 0 && i < cells.length) {
                cells[i] = (byte) value;
            }
        }

        void clear(int from, int n) {
            for (int k = 0; k < n; k++) {
                put(from + k, 0);
            }
        }

        boolean hasBit(int from, int i) {
            int at = from + i / 8;
            return at >= 0 && at < cells.length && (cells[at] >> (i % 8) & 1) == 1;
        }

        void turnBit(int from, int i) {
            int at = from + i / 8;
            if (at >= 0 && at < cells.length) {
                cells[at] ^= (byte) (1 << (i % 8));
            }
        }
    }

    /** A map of what is taken, a bit each. What lies below the first number is always taken. */
    private static final class TakenMap {
        private final Bytes bytes;
        private final int at;
        private final int first;
        private final int size;

        TakenMap(Bytes bytes, int at, int first, int size) {
            this.bytes = bytes;
            this.at = at;
            this.first = first;
            this.size = size;
        }

        int first() {
            return first;
        }

        int size() {
            return size;
        }

        boolean canChange(int i) {
            return i >= first && i < size;
        }

        boolean isTaken(int i) {
            return bytes.hasBit(at, i);
        }

        void turn(int i) {
            bytes.turnBit(at, i);
        }

        /** Takes what is always taken; all the bits are 0 before. */
        void start() {
            for (int i = 0; i < first; i++) {
                bytes.turnBit(at, i);
            }
        }

        int left() {
            int left = 0;
            for (int i = first; i < size; i++) {
                if (!bytes.hasBit(at, i)) {
                    left++;
                }
            }
            return left;
        }

        /** The lowest number that wasn't taken, or 0 if none is left. */
        int takeLowest() {
            for (int i = first; i < size; i++) {
                if (!bytes.hasBit(at, i)) {
                    bytes.turnBit(at, i);
                    return i;
                }
            }
            return 0;
        }

        void giveBack(int i) {
            if (canChange(i) && bytes.hasBit(at, i)) {
                bytes.turnBit(at, i);
            }
        }
    }

    /** The inodes and their pages. */
    private static final class Inodes {
        private final Bytes bytes;
        private final TakenMap inodeMap;
        private final TakenMap blockMap;

        Inodes(Bytes bytes, TakenMap inodeMap, TakenMap blockMap) {
            this.bytes = bytes;
            this.inodeMap = inodeMap;
            this.blockMap = blockMap;
        }

        static int start(int inode) {
            return INODES_AT + INODE_SIZE * inode;
        }

        int kind(int inode) {
            return bytes.get(start(inode));
        }

        int links(int inode) {
            return bytes.get(start(inode) + LINKS_AT);
        }

        void setLinks(int inode, int links) {
            bytes.put(start(inode) + LINKS_AT, links);
        }

        void addLinks(int inode, int more) {
            setLinks(inode, links(inode) + more);
        }

        int size(int inode) {
            int at = start(inode) + SIZE_AT;
            return bytes.get(at) + 256 * bytes.get(at + 1);
        }

        void setSize(int inode, int size) {
            int at = start(inode) + SIZE_AT;
            bytes.put(at, size);
            bytes.put(at + 1, size / 256);
        }

        int indirect(int inode) {
            return bytes.get(start(inode) + INDIRECT_AT);
        }

        /** Where the block of a page stands on the disk, or -1 if there is no place for it yet. */
        private int entryOf(int inode, int page) {
            if (page < DIRECT_PAGES) {
                return start(inode) + PAGES_AT + page;
            }
            int indirect = bytes.get(start(inode) + INDIRECT_AT);
            return indirect == 0 ? -1 : indirect * BLOCK_SIZE + page - DIRECT_PAGES;
        }

        /** The block of a page, or 0 for a hole. */
        int blockOf(int inode, int page) {
            return bytes.get(entryOf(inode, page));
        }

        int getByte(int inode, int offset) {
            int block = blockOf(inode, offset / BLOCK_SIZE);
            return block == 0 ? 0 : bytes.get(block * BLOCK_SIZE + offset % BLOCK_SIZE);
        }

        void putByte(int inode, int offset, int value) {
            int block = blockOf(inode, offset / BLOCK_SIZE);
            if (block != 0) {
                bytes.put(block * BLOCK_SIZE + offset % BLOCK_SIZE, value);
            }
        }

        int howMany(int kind) {
            int found = 0;
            for (int inode = ROOT; inode < INODES; inode++) {
                if (kind(inode) == kind) {
                    found++;
                }
            }
            return found;
        }

        /** How many blocks an inode has, the indirect one counted. */
        int blocks(int inode) {
            int found = indirect(inode) == 0 ? 0 : 1;
            for (int page = 0; page < PAGES; page++) {
                if (blockOf(inode, page) != 0) {
                    found++;
                }
            }
            return found;
        }

        /** How many blocks must be taken so that no page from the first to the last is a hole. */
        int blocksWanted(int inode, int firstPage, int lastPage) {
            int wanted = lastPage >= DIRECT_PAGES && indirect(inode) == 0 ? 1 : 0;
            for (int page = firstPage; page <= lastPage; page++) {
                if (blockOf(inode, page) == 0) {
                    wanted++;
                }
            }
            return wanted;
        }

        int spaceLeft() {
            return blockMap.left();
        }

        /** Takes an inode; its bytes are 0 already, as giving it back leaves none behind. */
        int take(int kind) {
            int inode = inodeMap.takeLowest();
            if (inode != 0) {
                bytes.put(start(inode), kind);
            }
            return inode;
        }

        private int takeBlock() {
            int block = blockMap.takeLowest();
            if (block != 0) {
                bytes.clear(block * BLOCK_SIZE, BLOCK_SIZE);
            }
            return block;
        }

        void fillHole(int inode, int page) {
            if (page >= DIRECT_PAGES && indirect(inode) == 0) {
                bytes.put(start(inode) + INDIRECT_AT, takeBlock());
            }
            int entry = entryOf(inode, page);
            if (bytes.get(entry) == 0) {
                bytes.put(entry, takeBlock());
            }
        }

        /** Makes holes of all pages from one on. */
        void dropPages(int inode, int firstPage) {
            for (int page = firstPage; page < PAGES; page++) {
                int entry = entryOf(inode, page);
                blockMap.giveBack(bytes.get(entry));
                bytes.put(entry, 0);
            }
            if (!hasIndirectPage(inode)) {
                blockMap.giveBack(indirect(inode));
                bytes.put(start(inode) + INDIRECT_AT, 0);
            }
        }

        private boolean hasIndirectPage(int inode) {
            for (int page = DIRECT_PAGES; page < PAGES; page++) {
                if (blockOf(inode, page) != 0) {
                    return true;
                }
            }
            return false;
        }

        void giveBack(int inode) {
            dropPages(inode, 0);
            bytes.clear(start(inode), INODE_SIZE);
            inodeMap.giveBack(inode);
        }
    }

    /** The directories and their slots. Filling and freeing a slot counts the links it makes. */
    private static final class Directories {
        private final Bytes bytes;
        private final Inodes inodes;

        Directories(Bytes bytes, Inodes inodes) {
            this.bytes = bytes;
            this.inodes = inodes;
        }

        int slots(int directory) {
            return Math.min(inodes.size(directory) / SLOT_SIZE, SLOTS_MAX);
        }

        /** Where a slot lies on the disk. */
        private int slotAt(int directory, int slot) {
            // 24 slots fill six pages, so that a directory never has an indirect block.
            int block = bytes.get(Inodes.start(directory) + PAGES_AT + slot / SLOTS_IN_BLOCK);
            return block * BLOCK_SIZE + slot % SLOTS_IN_BLOCK * SLOT_SIZE;
        }

        int inodeIn(int directory, int slot) {
            return bytes.get(slotAt(directory, slot));
        }

        private boolean hasName(int at, byte[] name) {
            for (int k = 0; k < name.length; k++) {
                if (bytes.get(at + 1 + k) != name[k]) {
                    return false;
                }
            }
            return true;
        }

        /** The slot with a name, or 0 if there is none. */
        private int find(int directory, byte[] name) {
            int slots = slots(directory);
            for (int slot = FIRST_NAME_SLOT; slot < slots; slot++) {
                int at = slotAt(directory, slot);
                if (bytes.get(at) != 0 && hasName(at, name)) {
                    return slot;
                }
            }
            return 0;
        }

        /** The slot that a new name gets, or 0 if all 24 have names. */
        private int slotForNew(int directory) {
            int slots = slots(directory);
            for (int slot = FIRST_NAME_SLOT; slot < slots; slot++) {
                if (inodeIn(directory, slot) == 0) {
                    return slot;
                }
            }
            return slots < SLOTS_MAX ? slots : 0;
        }

        /** Whether a new name fits in, when some blocks besides are to be taken too. */
        boolean hasRoom(int directory, int blocksBesides) {
            int slot = slotForNew(directory);
            if (slot == 0) {
                return false;
            }
            int page = slot / SLOTS_IN_BLOCK;
            return inodes.blocksWanted(directory, page, page) + blocksBesides <= inodes.spaceLeft();
        }

        private void fill(int directory, int slot, int inode, byte[] name) {
            int at = slotAt(directory, slot);
            bytes.put(at, inode);
            for (int k = 0; k < name.length; k++) {
                bytes.put(at + 1 + k, name[k]);
            }
            inodes.addLinks(inode, 1);
        }

        /** Gives an inode a name; that there is room has been seen before. */
        void add(int directory, int inode, byte[] name) {
            int slot = slotForNew(directory);
            if (slot == slots(directory)) {
                inodes.fillHole(directory, slot / SLOTS_IN_BLOCK);
                inodes.setSize(directory, (slot + 1) * SLOT_SIZE);
            }
            fill(directory, slot, inode, name);
        }

        void free(int directory, int slot) {
            int at = slotAt(directory, slot);
            inodes.addLinks(bytes.get(at), -1);
            bytes.clear(at, SLOT_SIZE);
        }

        /** Gives a new directory its first two slots. */
        void start(int directory, int above) {
            inodes.fillHole(directory, 0);
            inodes.setSize(directory, FIRST_NAME_SLOT * SLOT_SIZE);
            fill(directory, 0, directory, ITSELF);
            fill(directory, ABOVE_SLOT, above, ABOVE);
        }

        void putUnder(int directory, int above) {
            int at = slotAt(directory, ABOVE_SLOT);
            inodes.addLinks(bytes.get(at), -1);
            bytes.put(at, above);
            inodes.addLinks(above, 1);
        }

        boolean isEmpty(int directory) {
            int slots = slots(directory);
            for (int slot = FIRST_NAME_SLOT; slot < slots; slot++) {
                if (inodeIn(directory, slot) != 0) {
                    return false;
                }
            }
            return true;
        }

        /** Whether a directory is another one, or lies in it at any depth. */
        boolean liesIn(int directory, int other) {
            int at = directory;
            // No way up is longer than there are inodes, and above the root is the root.
            for (int level = 0; level < INODES; level++) {
                if (at == other) {
                    return true;
                }
                at = inodeIn(at, ABOVE_SLOT);
            }
            return false;
        }

        /** Follows a path from the root and tells where it leads. */
        void follow(Path path, Place place) {
            place.clear();
            if (!path.isPath()) {
                return;
            }
            place.inode = ROOT;
            for (int i = 1; i < path.length(); i++) {
                if (path.startsName(i)) {
                    path.copyName(i, place.name);
                    place.parent = inodes.kind(place.inode) == DIRECTORY ? place.inode : 0;
                    place.slot = place.parent == 0 ? 0 : find(place.parent, place.name);
                    place.inode = place.slot == 0 ? 0 : inodeIn(place.parent, place.slot);
                }
            }
        }
    }

    /** A path as it was typed, whether it is one or not. */
    private static final class Path {
        private final char[] text;
        private int length;

        Path() {
            text = new char[PATH_MAX];
            length = 0;
        }

        int length() {
            return length;
        }

        void empty() {
            length = 0;
        }

        int add(char c) {
            if (length >= text.length) {
                return -1;
            }
            text[length] = c;
            length++;
            return length;
        }

        void become(Path other) {
            length = other.length;
            for (int i = 0; i < length; i++) {
                text[i] = other.text[i];
            }
        }

        boolean isPath() {
            if (length == 0 || text[0] != '/') {
                return false;
            }
            int letters = 0;
            for (int i = 1; i < length; i++) {
                if (text[i] == '/') {
                    if (letters == 0) {
                        return false;
                    }
                    letters = 0;
                } else if (text[i] >= 'a' && text[i] <= 'z' && letters < NAME_MAX) {
                    letters++;
                } else {
                    return false;
                }
            }
            return letters > 0 || length == 1;
        }

        boolean startsName(int i) {
            return i > 0 && i < length && text[i - 1] == '/';
        }

        /** Copies the name that starts at a character, with zeros behind. */
        void copyName(int from, byte[] name) {
            boolean inName = from >= 0;
            for (int k = 0; k < name.length; k++) {
                inName = inName && from + k < length && text[from + k] != '/';
                name[k] = inName ? (byte) text[from + k] : 0;
            }
        }
    }

    /** Where a path leads. It is made once and used again, so that calls make no objects. */
    private static final class Place {
        /** The directory of the last name, or 0 if the part before it leads to none. */
        int parent;
        /** The slot of the last name, or 0. */
        int slot;
        /** What the path leads to, or 0. */
        int inode;
        /** The last name, with zeros behind. */
        final byte[] name;

        Place() {
            name = new byte[NAME_MAX];
        }

        void clear() {
            parent = 0;
            slot = 0;
            inode = 0;
        }
    }

    /** What the tree says of maps and link counts. */
    private static final class Survey {
        private final Inodes inodes;
        private final Directories directories;
        private final boolean[] inodeFound;
        private final boolean[] blockFound;
        private final int[] linksFound;
        private final int[] queue;
        private int queued;

        Survey(Inodes inodes, Directories directories) {
            this.inodes = inodes;
            this.directories = directories;
            inodeFound = new boolean[INODES];
            blockFound = new boolean[BLOCKS];
            linksFound = new int[INODES];
            queue = new int[INODES];
            queued = 0;
        }

        void goThroughTree() {
            forget();
            noteInode(ROOT);
            // Each inode is queued once, when it is first found: the queue ends by itself.
            for (int k = 0; k < queued && k < queue.length; k++) {
                noteBlocks(queue[k]);
                if (inodes.kind(queue[k]) == DIRECTORY) {
                    noteSlots(queue[k]);
                }
            }
        }

        private void forget() {
            queued = 0;
            for (int i = 0; i < INODES; i++) {
                inodeFound[i] = false;
                linksFound[i] = 0;
            }
            for (int i = 0; i < BLOCKS; i++) {
                blockFound[i] = false;
            }
        }

        private void noteInode(int inode) {
            if (!inodeFound[inode] && queued < queue.length) {
                inodeFound[inode] = true;
                queue[queued] = inode;
                queued++;
            }
        }

        private void noteBlocks(int inode) {
            noteBlock(inodes.indirect(inode));
            for (int page = 0; page < PAGES; page++) {
                noteBlock(inodes.blockOf(inode, page));
            }
        }

        private void noteBlock(int block) {
            if (block > 0 && block < BLOCKS) {
                blockFound[block] = true;
            }
        }

        private void noteSlots(int directory) {
            int slots = directories.slots(directory);
            for (int slot = 0; slot < slots; slot++) {
                int inode = directories.inodeIn(directory, slot);
                if (inode > 0 && inode < INODES) {
                    linksFound[inode]++;
                    noteInode(inode);
                }
            }
        }

        int wrongInodes(TakenMap map, boolean repair) {
            return wrongBits(map, inodeFound, repair);
        }

        int wrongBlocks(TakenMap map, boolean repair) {
            return wrongBits(map, blockFound, repair);
        }

        private static int wrongBits(TakenMap map, boolean[] found, boolean repair) {
            int wrong = 0;
            for (int i = map.first(); i < map.size() && i < found.length; i++) {
                if (map.isTaken(i) != found[i]) {
                    wrong++;
                    if (repair) {
                        map.turn(i);
                    }
                }
            }
            return wrong;
        }

        int wrongLinks(boolean repair) {
            int wrong = 0;
            for (int i = ROOT; i < INODES; i++) {
                if (inodeFound[i] && inodes.links(i) != linksFound[i]) {
                    wrong++;
                    if (repair) {
                        inodes.setLinks(i, linksFound[i]);
                    }
                }
            }
            return wrong;
        }
    }
}
