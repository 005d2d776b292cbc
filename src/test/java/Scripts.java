/** Rows of calls that several tests begin with, and the endings that they share. */
final class Scripts {
    static final String INDEX = " = throws IndexOutOfBoundsException;";
    static final String ARGUMENT = " = throws IllegalArgumentException;";
    static final String ARITHMETIC = " = throws ArithmeticException;";
    static final String STATE = " = throws IllegalStateException;";

    static final String LEAST = Integer.toString(Integer.MIN_VALUE);
    static final String MOST = Integer.toString(Integer.MAX_VALUE);

    /**
     * Three chains: each column hangs on its northern edge point alone, so that heads are whole numbers. A well in
     * row r lowers the head in row s of its column by the smaller of r and s, plus 1, and no other column.
     */
    static final String COMB = Check.each("setLink(#, 0) = 1", 12)
            + "setLink(15, 0) = 1; setLink(19, 0) = 1; setLink(23, 0) = 1;";

    /** All cells in one chain, 0 1 2 5 4 3 6 7 8, that hangs on the western edge point of row 0. */
    static final String CHAIN = "setLink(3, 0); setLink(4, 0); setLink(7, 0); setLink(8, 0); setLink(11, 0);"
            + "setLink(12, 0); setLink(13, 0); setLink(15, 0); setLink(16, 0); setLink(17, 0); setLink(18, 0);"
            + "setLink(19, 0); setLink(20, 0); setLink(22, 0); setLink(23, 0);";

    /**
     * Each side feeds cells of its own: the north 0, 1 and 4, the east 2 and 5, the south 7 and 8, the west 3 and 6;
     * so what enters on a side is what the wells of its cells take.
     */
    static final String WINDMILL = "setLink(0, 0); setLink(2, 0); setLink(3, 0); setLink(5, 0); setLink(6, 0);"
            + "setLink(8, 0); setLink(9, 0); setLink(11, 0); setLink(12, 0); setLink(13, 0); setLink(15, 0);"
            + "setLink(18, 0); setLink(20, 0); setLink(22, 0); setLink(23, 0);";

    /** The middle cell is cut off. */
    static final String LOOSE = "setLink(5, 0) = 1; setLink(6, 0) = 1; setLink(17, 0) = 1; setLink(18, 0) = 1;";

    private Scripts() {
    }

    static String edges(int head) {
        return Check.each("setEdge(#, " + head + ")", 12);
    }
}
