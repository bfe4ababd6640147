/** Counts the answers that are not the ones that are due. */
final class Due {
    private static int asked = 0;
    private static int wrong = 0;

    private Due() { }

    static void is(String call, long got, long want) {
        asked++;
        if (got != want) {
            wrong++;
            System.out.println(call + " answered " + got + ", due is " + want);
        }
    }

    static void end() {
        System.out.println(asked + " answers, " + wrong + " of them not as due");
        if (wrong != 0 || asked == 0) {
            System.exit(1);
        }
    }

    /** Feeds all signs of a text, eight at most at a time; the last answer. */
    static int feed(NobodyFirst x, String signs) {
        int size = x.count(3);
        for (int i = 0; i < signs.length(); i += 8) {
            int n = Math.min(8, signs.length() - i);
            long bytes = 0;
            for (int k = 0; k < n; k++) {
                bytes |= (long) signs.charAt(i + k) << 8 * k;
            }
            size = x.feed(n, bytes);
        }
        return size;
    }

    static int text(NobodyFirst x, String signs) {
        feed(x, signs);
        return x.text();
    }

    /** So many flat tenths without wind, ten wide. */
    static NobodyFirst flat(int tenths) {
        NobodyFirst x = new NobodyFirst();
        for (int i = 0; i < tenths; i++) {
            x.tenth(0, 0, 20);
        }
        return x;
    }
}
