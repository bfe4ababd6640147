/** Promises 27 to 31: sheet, cell, copy, tenths, taken. */
public final class HostTest {
    public static void main(String[] args) {
        sheet();
        cell();
        copy();
        copyRefuses();
        tenths();
        tenthsRefuse();
        tenthsFull();
        taken();
        Due.end();
    }

    private static void sheet() {
        NobodyFirst x = new NobodyFirst();
        int[][] bad = {{4, 0, 1}, {-1, 0, 1}, {0, 3, 1}, {0, -2, 1}, {0, 0, 41}, {0, 3, -1}, {4, -1, 0}, {4, 0, -1},
            {0, 2, Integer.MAX_VALUE}};
        for (int[] b : bad) {
            Due.is("sheet, bad", x.sheet(b[0], b[1], b[2]), NobodyFirst.BAD);
        }
        Due.is("a size below 0", x.sheet(0, 0, -1), -14);
        Due.is("the least size", x.sheet(0, 0, Integer.MIN_VALUE), -14);
        Due.is("missing still", x.cell(0, 0, 1), -11);
        Due.is("most", x.sheet(0, 2, 40), 1);
        Due.is("the last cell", x.cell(0, 39, 1), 1);
        Due.is("refused", x.sheet(0, 2, 41), NobodyFirst.BAD);
        Due.is("as it was", x.cell(0, 39, 1), 1);
        Due.is("empty", x.sheet(0, 1, 0), 1);
        Due.is("no cell", x.cell(0, 0, 1), -12);
        Due.is("missing", x.sheet(0, -1, 99), 1);
        Due.is("missing cell", x.cell(0, 0, 1), -11);
        Due.is("missing, again", x.sheet(0, -1, -99), 1);
    }

    /** Sheets are read by way of tenths(): what stands there as slope. */
    private static int slopeOf(NobodyFirst x, int sort) {
        x.rider(0, 0, 50, 0);
        int came = x.tenths(0, sort, 0, 1);
        return came == 1 ? 50 - x.says(0, x.count(0) - 1, 0, 2) : 100;
    }

    private static void cellOf(int sort, int v, int want) {
        NobodyFirst x = new NobodyFirst();
        x.sheet(0, sort, 3);
        x.cell(0, 0, v);
        x.cell(0, 2, 2);
        Due.is("cell of sort " + sort + ": " + v, slopeOf(x, sort), want);
    }

    private static void cell() {
        cellOf(0, 9, 9);
        cellOf(0, -9, -9);
        cellOf(0, 256 + 7, 7);
        cellOf(0, 255, -1);
        cellOf(0, 0x12345608, 8);
        cellOf(1, 256 + 7, 100);
        cellOf(1, 65536 + 7, 7);
        cellOf(1, 65535, -1);
        cellOf(2, 65536 + 7, 100);
        cellOf(2, -1, -1);
        NobodyFirst x = new NobodyFirst();
        x.sheet(1, 0, 2);
        Due.is("cell", x.cell(1, 1, 5), 1);
        Due.is("cell, no such sheet", x.cell(4, 0, 0), NobodyFirst.BAD);
        Due.is("cell, no such sheet", x.cell(-1, 0, 0), NobodyFirst.BAD);
        Due.is("cell, missing", x.cell(0, 0, 0), -11);
        Due.is("cell, missing and outside", x.cell(0, -1, 0), -11);
        Due.is("cell, outside", x.cell(1, 2, 0), -12);
        Due.is("cell, below", x.cell(1, -1, 0), -12);
        // A sheet made anew is all 0.
        NobodyFirst y = new NobodyFirst();
        y.sheet(0, 0, 3);
        y.cell(0, 0, 5);
        y.sheet(0, 0, 3);
        y.cell(0, 2, 2);
        Due.is("all 0", slopeOf(y, 0), 0);
    }

    private static NobodyFirst numbered() {
        NobodyFirst x = new NobodyFirst();
        x.rider(0, 0, 50, 0);
        x.sheet(0, 0, 6);
        for (int i = 0; i < 6; i++) {
            x.cell(0, i, i + 1);
        }
        return x;
    }

    private static void copy() {
        // 1 2 3 4 5 6: the cells 0 .. 3 to 1 .. 4 are 1 1 2 3 4 6.
        NobodyFirst x = numbered();
        Due.is("copy up", x.copy(0, 0, 0, 1, 4), 4);
        Due.is("both came", x.tenths(0, 0, 0, 2), 2);
        Due.is("1 1", x.says(0, 0, 0, 2), 48);
        Due.is("3 4", x.says(0, 1, 0, 2), 43);
        // The cells 1 .. 4 to 0 .. 3 are 2 3 4 5 5 6.
        NobodyFirst y = numbered();
        Due.is("copy down", y.copy(0, 1, 0, 0, 4), 4);
        y.tenths(0, 0, 0, 2);
        Due.is("2 3", y.says(0, 0, 0, 2), 45);
        Due.is("5 5", y.says(0, 1, 0, 2), 40);
        // To another sheet.
        NobodyFirst z = numbered();
        z.sheet(3, 0, 3);
        z.cell(3, 2, 2);
        Due.is("copy to another", z.copy(0, 3, 3, 0, 2), 2);
        Due.is("it came", z.tenths(3, 0, 0, 1), 1);
        Due.is("4 5", z.says(0, 0, 0, 2), 41);
        Due.is("copy nothing", z.copy(0, 6, 3, 3, 0), 0);
    }

    private static void copyRefuses() {
        NobodyFirst x = numbered();
        x.sheet(1, 1, 6);
        x.sheet(3, 0, 2);
        int max = Integer.MAX_VALUE;
        int[][] calls = {{4, 0, 0, 0, 1, -2}, {0, 0, 4, 0, 1, -2}, {-1, 0, 0, 0, 1, -2}, {0, 0, -1, 0, 1, -2},
            {2, 0, 4, 0, 1, -2}, {0, 0, 2, 0, 1, -11}, {2, 0, 0, 0, 1, -11}, {2, 0, 2, 0, -1, -11},
            {1, 0, 2, 9, 1, -11}, {0, 0, 1, 0, 1, -13}, {0, -1, 1, 0, -1, -13}, {0, 0, 0, 0, -1, -12},
            {0, -1, 0, 0, 1, -12}, {0, 0, 0, -1, 1, -12}, {0, 6, 0, 0, 1, -12}, {0, 0, 0, 6, 1, -12},
            {0, 7, 0, 0, 0, -12}, {0, 0, 0, 7, 0, -12}, {0, 0, 3, 0, 3, -12}, {0, 0, 0, 0, 7, -12},
            {0, max, 0, 0, max, -12}, {0, 0, 0, max, max, -12}, {0, 1, 0, 1, max, -12},
            {0, Integer.MIN_VALUE, 0, 0, Integer.MIN_VALUE, -12}};
        for (int[] c : calls) {
            Due.is("copy " + c[0] + " " + c[1] + " " + c[2] + " " + c[3] + " " + c[4],
                x.copy(c[0], c[1], c[2], c[3], c[4]), c[5]);
        }
        Due.is("as it was", x.tenths(0, 0, 0, 2), 2);
        Due.is("1 2", x.says(0, 0, 0, 2), 47);
        Due.is("4 5", x.says(0, 1, 0, 2), 41);
    }

    private static void tenths() {
        NobodyFirst x = numbered();
        Due.is("none of them", x.tenths(0, 0, 0, 0), 0);
        Due.is("none of them, from anywhere", x.tenths(0, 0, 99, 0), 0);
        Due.is("from the middle", x.tenths(0, 0, 2, 1), 1);
        Due.is("slope 3, wind 4", x.says(0, 0, 0, 2), 43);
        Due.is("WIDE 2, SIDE 1", x.split(1, 0), 0);
        x.cell(0, 0, 10);
        Due.is("one is left out", x.tenths(0, 0, 0, 2), 1);
        Due.is("the other one came", x.says(0, 1, 0, 2), 41);
        Due.is("tenths", x.count(0), 2);
    }

    private static void tenthsRefuse() {
        NobodyFirst x = numbered();
        int max = Integer.MAX_VALUE;
        int[][] calls = {{4, 0, 0, 1, -2}, {-1, 0, 0, 1, -2}, {0, 3, 0, 1, -2}, {0, -1, 0, 1, -2}, {0, 0, 0, -1, -2},
            {0, 0, 0, 13, -2}, {1, 0, 0, 13, -2}, {0, 1, 0, 1, -13}, {0, 2, 99, 1, -13}, {1, 0, 0, 1, -11},
            {1, 1, 99, 0, -11}, {0, 0, -1, 1, -12}, {0, 0, 4, 1, -12}, {0, 0, 6, 1, -12}, {0, 0, max, 12, -12},
            {0, 0, max - 6, 12, -12}, {0, 0, Integer.MIN_VALUE, 12, -12}, {0, 0, -3, 2, -12}};
        for (int[] c : calls) {
            Due.is("tenths " + c[0] + " " + c[1] + " " + c[2] + " " + c[3],
                x.tenths(c[0], c[1], c[2], c[3]), c[4]);
        }
        Due.is("none came", x.count(0), 0);
        Due.is("what stood ahead", x.tenths(0, 0, 0, 3), -12);
        Due.is("came", x.count(0), 2);
        Due.is("what stood ahead, from 1 on", x.tenths(0, 0, 1, 2), -12);
        Due.is("came too", x.count(0), 3);
    }

    private static void tenthsFull() {
        NobodyFirst x = Due.flat(39);
        x.sheet(2, 2, 36);
        for (int i = 0; i < 36; i++) {
            x.cell(2, i, 3);
        }
        Due.is("one has room", x.tenths(2, 2, 0, 12), 1);
        Due.is("none has", x.tenths(2, 2, 0, 12), 0);
        Due.is("tenths", x.count(0), 40);
    }

    private static void taken() {
        int[][] under = {{1, 0, 0, 0, 0, 0}, {1, 1, 0, 0, 0, 0}, {1, 0, 1, 0, 0, 0}, {1, 0, 1, 1, 0, 0},
            {1, 0, 0, 0, 1, 0}, {1, 1, 0, 0, 0, 1}};
        NobodyFirst x = new NobodyFirst();
        for (int kind = 0; kind < 6; kind++) {
            x.rider(kind, 10 + kind, 50, 0);
            for (int k = 0; k < 6; k++) {
                Due.is("taken: kind " + kind + " for " + k, x.taken(kind, k), under[kind][k] == 1 ? kind : -13);
            }
        }
        Due.is("taken, k 6", x.taken(0, 6), NobodyFirst.BAD);
        Due.is("taken, k -1", x.taken(0, -1), NobodyFirst.BAD);
        Due.is("taken, k ahead of the rider", x.taken(6, 6), NobodyFirst.BAD);
        Due.is("taken, no rider", x.taken(6, 5), -11);
        Due.is("taken, rider -1", x.taken(-1, 0), -11);
    }
}
