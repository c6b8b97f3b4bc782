import java.util.Arrays;

/**
 * What can be seen of a book, so that two looks can be compared. A look takes some 460 calls: two
 * are more than the 512 that the document speaks of, which works because the class counts no calls.
 */
final class Look {
    private static final int LENGTH_OF_HISTORY = 11;

    private Look() {
    }

    /** All properties of all things, the leases, and the totals but for the length of the history. */
    static int[] at(VacantAir book) {
        int[] seen = new int[16 + 16 * (11 + 8 + 7 + 2)];
        int at = 0;
        for (int property = 0; property < 16; property++) {
            seen[at++] = property == LENGTH_OF_HISTORY ? 0 : book.total(property);
        }
        for (int number = 0; number < 16; number++) {
            for (int property = 0; property < 11; property++) {
                seen[at++] = book.device(number, property);
            }
            for (int property = 0; property < 8; property++) {
                seen[at++] = book.event(number, property);
            }
            for (int property = 0; property < 7; property++) {
                seen[at++] = book.station(number, property);
            }
            seen[at++] = book.next(number);
            seen[at++] = book.leases(number);
        }
        return seen;
    }

    static boolean same(VacantAir book, int[] before) {
        return Arrays.equals(at(book), before);
    }
}
