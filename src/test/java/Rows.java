/** Rows that several tests begin with. */
final class Rows {
    static final String STATE = "throws.IllegalStateException\n";
    static final String ARGUMENT = "throws.IllegalArgumentException\n";

    private Rows() {
    }

    /** Fills the first pages of a file, two with each write; the number of pages is even. */
    static String fill(String file, int pages) {
        StringBuilder rows = new StringBuilder();
        for (int page = 0; page < pages; page += 2) {
            int offset = 32 * page + 28;
            rows.append("write " + file + " " + offset + " 8 -1 -> " + (offset + 8) + "\n");
        }
        return rows.toString();
    }

    /** Files /a and /b, which take all blocks but 14 - pages; the root's block is full then. */
    static String twoFiles(int pages) {
        return "create /a -> 2\ncreate /b -> 3\n" + fill("/a", 38) + fill("/b", pages);
    }

    /** Files by letters, from a letter on, with inodes from a number on. */
    static String files(String directory, char first, int n, int inode) {
        StringBuilder rows = new StringBuilder();
        for (int k = 0; k < n; k++) {
            char name = (char) (first + k);
            rows.append("create " + directory + "/" + name + " -> " + (inode + k) + "\n");
        }
        return rows.toString();
    }

    /** More names of a file that has one, by letters. */
    static String names(String file, String directory, char first, int n) {
        StringBuilder rows = new StringBuilder();
        for (int k = 0; k < n; k++) {
            char name = (char) (first + k);
            rows.append("link " + file + " " + directory + "/" + name + " -> " + (2 + k) + "\n");
        }
        return rows.toString();
    }

    static String zeros(int n) {
        return "0 ".repeat(n).strip() + "\n";
    }
}
