/** What the answers to refused calls are, written out once more. */
abstract class Edges {
    static final int NONE = -1, BAD = -2, STATE = -3, FULL = -4;
    static final int NOTHING = -11, OUTSIDE = -12, UNLIKE = -13, BELOW = -14;
    static final long NO = -4611686018427387904L;
    static final int MOST = Integer.MAX_VALUE, LEAST = Integer.MIN_VALUE;
}
