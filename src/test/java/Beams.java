/** Where beams are, reckoned by hand. */
final class Beams {
    /** In which layer the beam of an elevation is above each kilometre. */
    static final int[][] LAYERS = {
        {0, 0, 0, 0, 0, 0, 0, 0, 0, 0, 1, 1, 1, 1, 1, 2, 2, 2, 3, 3},
        {0, 0, 0, 0, 1, 1, 1, 1, 2, 2, 3, 3, 4, 4, 4, 5, 6, 6, 7, 7},
        {0, 0, 1, 1, 2, 2, 3, 3, 4, 4, 6, 6, 7, 7, 8, 9, 10, 10, 12, 12},
        {0, 0, 1, 2, 3, 3, 4, 5, 6, 6, 8, 9, 10, 10, 11, 13, 14, 14, 16, 17},
    };

    private Beams() {
    }
}
