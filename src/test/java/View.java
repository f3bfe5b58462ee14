/** All that the public face tells of the symbols of one level, read once; no object gets more than 512 calls. */
final class View {
    final int level;
    final int count;
    final int dimension;
    final int cusps;
    /** For each symbol what symbol() answers, from c of its pair to which free symbol it is. */
    final int[][] properties;
    final long[][] coordinates;
    private PairSymbols x;
    private int calls;

    View(int level) {
        this.level = level;
        count = ask().symbols();
        dimension = ask().space(0);
        cusps = ask().space(1);
        properties = new int[count][7];
        coordinates = new long[count][dimension];
        for (int s = 0; s < count; s++) {
            for (int what = 0; what < 7; what++) {
                properties[s][what] = ask().symbol(s, what);
            }
            for (int i = 0; i < dimension; i++) {
                coordinates[s][i] = ask().fraction(s, i, 0);
            }
        }
    }

    /** An object at this level with the sum 0, for one call that changes nothing. */
    PairSymbols ask() {
        if (x == null || calls == Both.MOST_CALLS) {
            x = Starts.at(level);
            calls = 1;
        }
        calls++;
        return x;
    }

    int c(int s) {
        return properties[s][0];
    }

    int d(int s) {
        return properties[s][1];
    }

    int turned(int s) {
        return properties[s][2];
    }

    int rotated(int s) {
        return properties[s][3];
    }

    int shifted(int s) {
        return properties[s][4];
    }

    int cusp(int s) {
        return properties[s][5];
    }

    int freeNumber(int s) {
        return properties[s][6];
    }

    long[][] matrix(int n) {
        long[][] result = new long[dimension][dimension];
        for (int i = 0; i < dimension; i++) {
            for (int j = 0; j < dimension; j++) {
                result[i][j] = ask().table(n, i, j, 0);
            }
        }
        return result;
    }

    long[] polynomial(int n, int what) {
        long[] result = new long[(what == 0 ? dimension : 2 * ask().space(2)) + 1];
        for (int k = 0; k < result.length; k++) {
            result[k] = ask().polynomial(n, what, k);
        }
        return result;
    }
}
