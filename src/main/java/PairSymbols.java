import java.util.Arrays;

/**
 * Modular symbols of weight 2 for the group Gamma0(N), computed with Manin symbols.
 *
 * Why no fraction is ever held: by the two-term relations a symbol is minus its partner (or 0),
 * and each such pair then stands in just two three-term relations, with opposite signs. Relations
 * of that shape, like the boundaries of the free symbols, form a network matrix, whose minors are
 * all 0, 1 or -1. So every coordinate of a symbol is 0, 1 or -1, every leading coefficient met
 * while solving is 1 or -1, and every denominator is 1.
 */
public final class PairSymbols {
    public static final int NONE = -1, BAD = -2, NO = -3, FULL = -4;

    private static final int FIRST_LEVEL = 11;
    private static final int MOST_LEVEL = 25;
    private static final int MOST_OPERATOR = 7;
    private static final int MOST_ROOT = 8;
    private static final int MOST_ENTRY = 9999;
    private static final int MOST_MULTIPLE = 999;
    private static final int MOST_PATH = 99;
    private static final int MOST_FORMULA = 60;
    private static final int MOST_KEPT = 6;
    private static final int MOST_BYTES = 120;
    /** The shortest command, "z;", has two bytes. */
    private static final int MOST_COMMANDS = 60;
    /** Level 24 has the most free symbols, 9. */
    private static final int MOST_COORDINATES = 9;
    private static final long MOST_NUMERATOR = 1000000000000L;
    private static final long DENOMINATOR = 1;
    /** Euclid's algorithm on numbers below 10000 takes fewer steps than this. */
    private static final int MOST_STEPS = 64;

    private static final long TRACE_BAD = -9999, TRACE_NO = -9998;
    /** The two lowest long numbers. */
    private static final long LONG_BAD = -9223372036854775808L, LONG_NO = -9223372036854775807L;
    private static final int FAULT_BASE = -10, COMMAND_BASE = -1000;
    private static final long DIGEST_START = 2297;

    /** The levels met so far, so that none is solved twice. */
    private final Level[] made;
    private final State now;
    /** Every change is tried here first, so that a refused one leaves no trace. */
    private final State trial;
    private final History history;
    private final Script script;
    private final Formulas formulas;
    private int badCount;
    private int noCount;
    private int fullCount;

    public PairSymbols() {
        Level first = new Level(FIRST_LEVEL);
        made = new Level[MOST_LEVEL + 1];
        made[FIRST_LEVEL] = first;
        now = new State(first);
        trial = new State(first);
        history = new History(first);
        script = new Script();
        formulas = new Formulas();
    }

    // ---- the level and its symbols

    public int level(int n) {
        trial.copyFrom(now);
        return settle(enter(n));
    }

    public int symbols() {
        return now.at.count;
    }

    public int symbol(int s, int what) {
        Level at = now.at;
        if (!at.hasSymbol(s)) {
            return refuse(BAD);
        }
        switch (what) {
            case 0: return at.first[s];
            case 1: return at.second[s];
            case 2: return at.turned[s];
            case 3: return at.rotated[s];
            case 4: return at.shifted[s];
            case 5: return at.cuspOf[s];
            case 6: return at.freeNumber[s];
            default: return refuse(BAD);
        }
    }

    public int pair(int c, int d) {
        if (!within(c, -MOST_ENTRY, MOST_ENTRY) || !within(d, -MOST_ENTRY, MOST_ENTRY)) {
            return refuse(BAD);
        }
        return now.at.find(c, d);
    }

    public int space(int what) {
        Level at = now.at;
        switch (what) {
            case 0: return at.dimension;
            case 1: return at.cusps;
            case 2: return at.cycles.free.length / 2;
            case 3: return at.closedSymbols();
            default: return refuse(BAD);
        }
    }

    public long fraction(int s, int i, int what) {
        Level at = now.at;
        if (!at.hasSymbol(s) || !at.hasCoordinate(i) || !within(what, 0, 1)) {
            return refuse(BAD);
        }
        return what == 0 ? at.coordinates[s][i] : DENOMINATOR;
    }

    // ---- operators

    public long table(int n, int i, int j, int what) {
        Level at = now.at;
        if (!within(n, 1, MOST_OPERATOR) || !at.hasCoordinate(i) || !at.hasCoordinate(j)
                || !within(what, 0, 1)) {
            return refuse(BAD);
        }
        Operator operator = at.operatorFor(n);
        if (operator == null) {
            return refuse(NO);
        }
        return what == 0 ? operator.matrix[i][j] : DENOMINATOR;
    }

    public long trace(int n, int what) {
        if (!within(n, 1, MOST_OPERATOR) || !within(what, 0, 1)) {
            refuse(BAD);
            return TRACE_BAD;
        }
        Operator operator = now.at.operatorFor(n);
        if (operator == null) {
            refuse(NO);
            return TRACE_NO;
        }
        return Matrices.diagonalSum(what == 0 ? operator.matrix : operator.restricted);
    }

    public long polynomial(int n, int what, int k) {
        if (!within(n, 1, MOST_OPERATOR) || !within(what, 0, 1) || k < 0) {
            refuse(BAD);
            return LONG_BAD;
        }
        Operator operator = now.at.operatorFor(n);
        if (operator == null) {
            refuse(NO);
            return LONG_NO;
        }
        long[] coefficients = what == 0 ? operator.wholeCoefficients() : operator.cuspidalCoefficients();
        return k < coefficients.length ? coefficients[k] : 0;
    }

    public int root(int n, int v) {
        if (!within(n, 1, MOST_OPERATOR) || !within(v, -MOST_ROOT, MOST_ROOT)) {
            return refuse(BAD);
        }
        Operator operator = now.at.operatorFor(n);
        if (operator == null) {
            return refuse(NO);
        }
        return Matrices.multiplicity(operator.cuspidalCoefficients(), v);
    }

    // ---- formulas

    public int formula(int m, int what) {
        if (!within(m, 1, MOST_FORMULA)) {
            return refuse(BAD);
        }
        switch (what) {
            case 0: return Formulas.index(m);
            case 1: return Formulas.orderTwo(m);
            case 2: return Formulas.orderThree(m);
            case 3: return Formulas.ends(m);
            case 4: return Formulas.forms(m);
            case 5: return formulas.newForms(m);
            default: return refuse(BAD);
        }
    }

    // ---- the sum

    public int adds(int s, int v) {
        trial.copyFrom(now);
        return settle(trial.addMultiple(s, v));
    }

    public int applies(int n) {
        trial.copyFrom(now);
        return settle(trial.applyOperator(n));
    }

    public int walks(int a, int b) {
        trial.copyFrom(now);
        return settle(trial.addPath(a, b));
    }

    public long sum(int i, int what) {
        if (!now.at.hasCoordinate(i) || !within(what, 0, 1)) {
            refuse(BAD);
            return LONG_BAD;
        }
        return what == 0 ? now.row[i] : DENOMINATOR;
    }

    public long boundary(int cusp, int what) {
        if (!within(cusp, 0, now.at.cusps - 1) || !within(what, 0, 1)) {
            refuse(BAD);
            return LONG_BAD;
        }
        return what == 0 ? now.boundaryAt(cusp) : DENOMINATOR;
    }

    public int cuspidal() {
        for (int cusp = 0; cusp < now.at.cusps; cusp++) {
            if (now.boundaryAt(cusp) != 0) {
                return 0;
            }
        }
        return 1;
    }

    // ---- texts

    public int type(int c) {
        if (!within(c, 0, 127)) {
            return refuse(BAD);
        }
        if (!script.append(c)) {
            return refuse(FULL);
        }
        return script.length;
    }

    public int clear() {
        int before = script.length;
        script.length = 0;
        return before;
    }

    public int reads() {
        int fault = script.parse();
        if (fault != NONE) {
            return FAULT_BASE - fault;
        }
        trial.copyFrom(now);
        for (int k = 0; k < script.commands; k++) {
            if (perform(k) < 0) {
                return COMMAND_BASE - k;
            }
        }
        return settle(script.commands);
    }

    public int back() {
        if (history.count == 0) {
            return refuse(NO);
        }
        history.restore(now);
        return history.count;
    }

    public int told(int what) {
        switch (what) {
            case 0: return badCount;
            case 1: return noCount;
            case 2: return fullCount;
            case 3: return script.length;
            case 4: return now.at.number;
            case 5: return history.count;
            default: return refuse(BAD);
        }
    }

    public long digest() {
        long h = DIGEST_START;
        for (int what = 0; what <= 5; what++) {
            h = 31 * h + told(what);
        }
        h = 31 * h + symbols();
        for (int what = 0; what <= 2; what++) {
            h = 31 * h + space(what);
        }
        for (int i = 0; i < now.at.dimension; i++) {
            h = 31 * h + sum(i, 0);
            h = 31 * h + sum(i, 1);
        }
        return 31 * h + cuspidal();
    }

    // ---- what the calls share

    private static boolean within(int value, int least, int most) {
        return value >= least && value <= most;
    }

    private static int gcd(int a, int b) {
        int x = a;
        int y = b;
        for (int step = 0; step < MOST_STEPS && y != 0; step++) {
            int rest = x % y;
            x = y;
            y = rest;
        }
        return x;
    }

    private int refuse(int code) {
        if (code == BAD) {
            badCount++;
        } else if (code == NO) {
            noCount++;
        } else if (code == FULL) {
            fullCount++;
        }
        return code;
    }

    /** Makes the tried change real, unless the answer is an error. */
    private int settle(int answer) {
        if (answer < 0) {
            return refuse(answer);
        }
        history.keep(now);
        now.copyFrom(trial);
        return answer;
    }

    /** Moves the trial to a level and answers the level before. */
    private int enter(int n) {
        if (!within(n, 1, MOST_LEVEL)) {
            return BAD;
        }
        Level next = made[n];
        if (next == null) {
            next = new Level(n);
            made[n] = next;
        }
        int before = trial.at.number;
        trial.at = next;
        trial.becomeZero();
        return before;
    }

    /** Tries a command of the text; the answer is below 0 if its call would return an error. */
    private int perform(int k) {
        int x = script.one[k];
        int y = script.two[k];
        switch (script.kinds[k]) {
            case 'n': return enter(x);
            case '+': return trial.addMultiple(y, x);
            case 't': return trial.applyOperator(x);
            case 'w': return trial.addPath(x, y);
            default: return trial.becomeZero();
        }
    }

    /** A level and an element of its space. */
    private static final class State {
        Level at;
        final long[] row;

        State(Level first) {
            at = first;
            row = new long[MOST_COORDINATES];
        }

        void copyFrom(State other) {
            at = other.at;
            System.arraycopy(other.row, 0, row, 0, MOST_COORDINATES);
        }

        int becomeZero() {
            Arrays.fill(row, 0);
            return 0;
        }

        int addMultiple(int s, int v) {
            if (!at.hasSymbol(s) || !within(v, -MOST_MULTIPLE, MOST_MULTIPLE)) {
                return BAD;
            }
            addSymbol(s, v);
            return verdict();
        }

        int applyOperator(int n) {
            if (!within(n, 1, MOST_OPERATOR)) {
                return BAD;
            }
            Operator operator = at.operatorFor(n);
            if (operator == null) {
                return NO;
            }
            operator.applyTo(row);
            return verdict();
        }

        int addPath(int a, int b) {
            if (!within(a, 0, MOST_PATH) || !within(b, 1, MOST_PATH)) {
                return BAD;
            }
            int q = 0;
            int r = 1;
            int above = a;
            int below = b;
            addSymbol(at.find(q, r), 1);
            for (int k = 0; k < MOST_STEPS && below != 0; k++) {
                int term = above / below;
                int rest = above % below;
                above = below;
                below = rest;
                int newest = term * q + r;
                r = q;
                q = newest;
                addSymbol(at.find(k % 2 == 0 ? -q : q, r), 1);
            }
            return verdict();
        }

        private void addSymbol(int s, int v) {
            if (!at.hasSymbol(s)) {
                return;
            }
            for (int i = 0; i < at.dimension; i++) {
                row[i] += (long) v * at.coordinates[s][i];
            }
        }

        /** How many coordinates are not 0, or NO if one is out of its range. */
        private int verdict() {
            int count = 0;
            for (int i = 0; i < at.dimension; i++) {
                if (row[i] > MOST_NUMERATOR || row[i] < -MOST_NUMERATOR) {
                    return NO;
                }
                if (row[i] != 0) {
                    count++;
                }
            }
            return count;
        }

        long boundaryAt(int cusp) {
            long total = 0;
            for (int j = 0; j < at.dimension; j++) {
                total += row[j] * at.edge(j, cusp);
            }
            return total;
        }
    }

    /** The kept states, the oldest first. */
    private static final class History {
        private final State[] kept;
        int count;

        History(Level first) {
            kept = new State[MOST_KEPT];
            for (int k = 0; k < MOST_KEPT; k++) {
                kept[k] = new State(first);
            }
        }

        void keep(State state) {
            if (count == MOST_KEPT) {
                forgetOldest();
            }
            kept[count].copyFrom(state);
            count++;
        }

        private void forgetOldest() {
            State oldest = kept[0];
            for (int k = 1; k < MOST_KEPT; k++) {
                kept[k - 1] = kept[k];
            }
            kept[MOST_KEPT - 1] = oldest;
            count--;
        }

        void restore(State state) {
            if (count > 0) {
                count--;
                state.copyFrom(kept[count]);
            }
        }
    }

    /** The text, and the commands that its last parse found. */
    private static final class Script {
        private final byte[] bytes;
        int length;
        final int[] kinds;
        final int[] one;
        final int[] two;
        int commands;
        private int place;
        private int number;

        Script() {
            bytes = new byte[MOST_BYTES];
            kinds = new int[MOST_COMMANDS];
            one = new int[MOST_COMMANDS];
            two = new int[MOST_COMMANDS];
        }

        boolean append(int c) {
            if (length >= MOST_BYTES) {
                return false;
            }
            bytes[length] = (byte) c;
            length++;
            return true;
        }

        /** Finds the commands; answers the fault, or NONE. */
        int parse() {
            commands = 0;
            place = 0;
            skipBlanks();
            if (place == length) {
                return place;
            }
            for (int k = 0; k < MOST_COMMANDS && place < length; k++) {
                if (!parseCommand()) {
                    return place;
                }
                skipBlanks();
            }
            return NONE;
        }

        /** If it answers false, place is the fault; so it is in the methods that it calls. */
        private boolean parseCommand() {
            int kind = byteHere();
            int numbers = numbersOf(kind);
            if (numbers == NONE || commands >= MOST_COMMANDS) {
                return false;
            }
            place++;
            kinds[commands] = kind;
            if (numbers > 0) {
                if (!parseNumber(kind == '+')) {
                    return false;
                }
                one[commands] = number;
            }
            if (numbers > 1) {
                if (!parseNumber(false)) {
                    return false;
                }
                two[commands] = number;
            }
            skipBlanks();
            if (byteHere() != ';') {
                return false;
            }
            place++;
            commands++;
            return true;
        }

        private static int numbersOf(int kind) {
            switch (kind) {
                case 'n': return 1;
                case '+': return 2;
                case 't': return 1;
                case 'w': return 2;
                case 'z': return 0;
                default: return NONE;
            }
        }

        private boolean parseNumber(boolean signed) {
            skipBlanks();
            boolean negative = signed && byteHere() == '-';
            if (negative) {
                place++;
            }
            int value = 0;
            int digits = 0;
            while (digits < 3 && digitHere()) {
                value = 10 * value + byteHere() - '0';
                digits++;
                place++;
            }
            number = negative ? -value : value;
            return digits > 0 && !digitHere();
        }

        private void skipBlanks() {
            while (place < length && byteHere() == ' ') {
                place++;
            }
        }

        private boolean digitHere() {
            return within(byteHere(), '0', '9');
        }

        /** NONE at the end of the text. */
        private int byteHere() {
            return place < length && place < MOST_BYTES ? bytes[place] : NONE;
        }
    }

    /** Linear relations among numbered columns, each solved for its highest column. */
    private static final class Relations {
        private final int columns;
        /** bound[c] tells whether rows[c] is a relation with 1 in column c and 0 in all higher ones. */
        private final boolean[] bound;
        private final int[][] rows;
        private int boundCount;

        Relations(int columns) {
            this.columns = columns;
            bound = new boolean[columns];
            rows = new int[columns][columns];
        }

        /** Takes in a relation; what stands in the row is used up, and it is 0 then. */
        void impose(int[] row) {
            for (int c = columns - 1; c >= 0; c--) {
                if (row[c] != 0 && !bound[c]) {
                    bind(c, row);
                    break;
                }
                if (row[c] != 0) {
                    subtract(row[c], rows[c], row);
                }
            }
            Arrays.fill(row, 0);
        }

        private void bind(int c, int[] row) {
            int lead = row[c];
            for (int k = 0; k <= c; k++) {
                rows[c][k] = lead * row[k];
            }
            bound[c] = true;
            boundCount++;
        }

        private static void subtract(int times, int[] known, int[] row) {
            for (int k = 0; k < row.length; k++) {
                row[k] -= times * known[k];
            }
        }

        /** The columns that no relation binds, in their order. */
        int[] freeColumns() {
            int[] free = new int[columns - boundCount];
            int next = 0;
            for (int c = 0; c < columns && next < free.length; c++) {
                if (!bound[c]) {
                    free[next] = c;
                    next++;
                }
            }
            return free;
        }

        /** For each column its coefficients in the free columns. */
        int[][] coordinatesIn(int[] free) {
            int[][] result = new int[columns][free.length];
            for (int i = 0; i < free.length; i++) {
                result[free[i]][i] = 1;
            }
            for (int c = 0; c < columns; c++) {
                for (int k = 0; bound[c] && k < c; k++) {
                    if (rows[c][k] != 0) {
                        subtract(rows[c][k], result[k], result[c]);
                    }
                }
            }
            return result;
        }
    }

    /** The cuspidal elements of a level, by a basis. */
    private static final class Cycles {
        /** Basis element k has coordinate 1 at free[k], where all others have 0. */
        final int[] free;
        /** basis[i][k] is coordinate i of basis element k. */
        final int[][] basis;

        /** Takes the relations which say that the boundary is 0. */
        Cycles(Relations boundaries) {
            free = boundaries.freeColumns();
            basis = boundaries.coordinatesIn(free);
        }
    }

    /** A level with its symbols, its relations solved and its cusps. */
    private static final class Level {
        final int number;
        /** At c * number + d the symbol (c : d), or NONE. */
        private final int[] symbolAt;
        final int count;
        final int[] first;
        final int[] second;
        final int[] turned;
        final int[] rotated;
        final int[] shifted;
        final int[] cuspOf;
        final int cusps;
        final int[] free;
        final int[] freeNumber;
        final int dimension;
        final int[][] coordinates;
        final Cycles cycles;
        private final Operator[] operators;

        Level(int number) {
            this.number = number;
            symbolAt = new int[number * number];
            count = numberPairs();
            first = new int[count];
            second = new int[count];
            turned = new int[count];
            rotated = new int[count];
            shifted = new int[count];
            listPairs();
            listMaps();
            cuspOf = new int[count];
            cusps = numberCusps();
            Relations relations = new Relations(count);
            relateSymbols(relations);
            free = relations.freeColumns();
            dimension = free.length;
            coordinates = relations.coordinatesIn(free);
            freeNumber = new int[count];
            Arrays.fill(freeNumber, NONE);
            for (int i = 0; i < dimension; i++) {
                freeNumber[free[i]] = i;
            }
            Relations boundaries = new Relations(dimension);
            relateCoordinates(boundaries);
            cycles = new Cycles(boundaries);
            operators = new Operator[MOST_OPERATOR + 1];
        }

        boolean hasSymbol(int s) {
            return s >= 0 && s < count;
        }

        boolean hasCoordinate(int i) {
            return i >= 0 && i < dimension;
        }

        int find(int c, int d) {
            int e = (c % number + number) % number;
            int f = (d % number + number) % number;
            return symbolAt[e * number + f];
        }

        /** The pairs come in order, so the first of each class represents it. */
        private int numberPairs() {
            Arrays.fill(symbolAt, NONE);
            int next = 0;
            for (int c = 0; c < number; c++) {
                for (int d = 0; d < number; d++) {
                    if (symbolAt[c * number + d] == NONE && gcd(gcd(c, d), number) == 1) {
                        markClass(c, d, next);
                        next++;
                    }
                }
            }
            return next;
        }

        private void markClass(int c, int d, int s) {
            for (int u = 1; u <= number; u++) {
                if (gcd(u, number) == 1) {
                    symbolAt[u * c % number * number + u * d % number] = s;
                }
            }
        }

        private void listPairs() {
            int next = 0;
            for (int c = 0; c < number; c++) {
                for (int d = 0; d < number && next < count; d++) {
                    if (symbolAt[c * number + d] == next) {
                        first[next] = c;
                        second[next] = d;
                        next++;
                    }
                }
            }
        }

        private void listMaps() {
            for (int s = 0; s < count; s++) {
                int c = first[s];
                int d = second[s];
                turned[s] = find(-d, c);
                rotated[s] = find(c + d, -c);
                shifted[s] = find(c, c + d);
            }
        }

        private int numberCusps() {
            Arrays.fill(cuspOf, NONE);
            int next = 0;
            for (int s = 0; s < count; s++) {
                if (cuspOf[s] == NONE) {
                    int t = s;
                    for (int step = 0; step < count && cuspOf[t] == NONE; step++) {
                        cuspOf[t] = next;
                        t = shifted[t];
                    }
                    next++;
                }
            }
            return next;
        }

        /**
         * Where a map fixes a symbol, its relation says that a multiple of the symbol is 0, so the
         * symbol is: hence coefficients are set to 1, not added up.
         */
        private void relateSymbols(Relations relations) {
            int[] row = new int[count];
            for (int s = 0; s < count; s++) {
                if (s <= turned[s]) {
                    row[s] = 1;
                    row[turned[s]] = 1;
                    relations.impose(row);
                }
            }
            for (int s = 0; s < count; s++) {
                int t = rotated[s];
                int v = rotated[t];
                if (s <= t && s <= v) {
                    row[s] = 1;
                    row[t] = 1;
                    row[v] = 1;
                    relations.impose(row);
                }
            }
        }

        /** At each cusp, the coordinates of a cuspidal element satisfy one relation. */
        private void relateCoordinates(Relations relations) {
            int[] row = new int[dimension];
            for (int cusp = 0; cusp < cusps; cusp++) {
                for (int j = 0; j < dimension; j++) {
                    row[j] = edge(j, cusp);
                }
                relations.impose(row);
            }
        }

        /** The coefficient of a cusp in the boundary of free symbol j. */
        int edge(int j, int cusp) {
            int s = free[j];
            int ahead = cuspOf[s] == cusp ? 1 : 0;
            int behind = cuspOf[turned[s]] == cusp ? 1 : 0;
            return ahead - behind;
        }

        int closedSymbols() {
            int closed = 0;
            for (int j = 0; j < dimension; j++) {
                if (cuspOf[free[j]] == cuspOf[turned[free[j]]]) {
                    closed++;
                }
            }
            return closed;
        }

        /** Null if there is no operator n for this level. */
        Operator operatorFor(int n) {
            if (!within(n, 1, MOST_OPERATOR) || gcd(n, number) != 1) {
                return null;
            }
            Operator found = operators[n];
            if (found == null) {
                found = new Operator(this, n);
                operators[n] = found;
            }
            return found;
        }
    }

    /** A Hecke operator of a level. */
    private static final class Operator {
        final long[][] matrix;
        /** The matrix on the basis of the cuspidal elements. */
        final long[][] restricted;
        private final long[] image;
        private long[] whole;
        private long[] ofCycles;

        Operator(Level at, int n) {
            matrix = new long[at.dimension][at.dimension];
            image = new long[at.dimension];
            addTerms(at, n);
            int size = at.cycles.free.length;
            restricted = new long[size][size];
            restrictTo(at.cycles);
        }

        /** As a * d - b * c is at least a + d - 1, no a and d go beyond n + 1 together. */
        private void addTerms(Level at, int n) {
            for (int a = 1; a <= n; a++) {
                for (int d = 1; d <= n + 1 - a; d++) {
                    for (int b = 0; b < a; b++) {
                        for (int c = 0; c < d; c++) {
                            if (a * d - b * c == n) {
                                addTerm(at, a, b, c, d);
                            }
                        }
                    }
                }
            }
        }

        private void addTerm(Level at, int a, int b, int c, int d) {
            for (int j = 0; j < at.dimension; j++) {
                int u = at.first[at.free[j]];
                int v = at.second[at.free[j]];
                int image = at.find(u * a + v * c, u * b + v * d);
                for (int i = 0; image != NONE && i < at.dimension; i++) {
                    matrix[i][j] += at.coordinates[image][i];
                }
            }
        }

        private void restrictTo(Cycles cycles) {
            for (int i = 0; i < restricted.length; i++) {
                long[] line = matrix[cycles.free[i]];
                for (int k = 0; k < restricted.length; k++) {
                    for (int j = 0; j < line.length; j++) {
                        restricted[i][k] += line[j] * cycles.basis[j][k];
                    }
                }
            }
        }

        /** The row may be longer than the matrix; what lies beyond stays. */
        void applyTo(long[] row) {
            for (int i = 0; i < image.length; i++) {
                long total = 0;
                for (int j = 0; j < image.length; j++) {
                    total += matrix[i][j] * row[j];
                }
                image[i] = total;
            }
            System.arraycopy(image, 0, row, 0, image.length);
        }

        long[] wholeCoefficients() {
            if (whole == null) {
                whole = Matrices.characteristic(matrix);
            }
            return whole;
        }

        long[] cuspidalCoefficients() {
            if (ofCycles == null) {
                ofCycles = Matrices.characteristic(restricted);
            }
            return ofCycles;
        }
    }

    /** Square matrices and their polynomials, the coefficients from the lowest on. */
    private static final class Matrices {
        private Matrices() {
        }

        static long diagonalSum(long[][] matrix) {
            long total = 0;
            for (int i = 0; i < matrix.length; i++) {
                total += matrix[i][i];
            }
            return total;
        }

        /** Faddeev and LeVerrier's way: each division leaves no rest, as the matrix is whole. */
        static long[] characteristic(long[][] matrix) {
            int size = matrix.length;
            long[] result = new long[size + 1];
            result[size] = 1;
            long[][] power = new long[size][size];
            long[][] product = new long[size][size];
            addToDiagonal(1, power);
            for (int k = 1; k <= size; k++) {
                multiply(matrix, power, product);
                long coefficient = -diagonalSum(product) / k;
                result[size - k] = coefficient;
                addToDiagonal(coefficient, product);
                long[][] swapped = power;
                power = product;
                product = swapped;
            }
            return result;
        }

        private static void addToDiagonal(long value, long[][] matrix) {
            for (int i = 0; i < matrix.length; i++) {
                matrix[i][i] += value;
            }
        }

        private static void multiply(long[][] left, long[][] right, long[][] product) {
            int size = left.length;
            for (int i = 0; i < size; i++) {
                for (int j = 0; j < size; j++) {
                    long total = 0;
                    for (int k = 0; k < size; k++) {
                        total += left[i][k] * right[k][j];
                    }
                    product[i][j] = total;
                }
            }
        }

        /** Divides by x - v as long as there is no rest, each time within the same row. */
        static int multiplicity(long[] coefficients, int v) {
            int degree = coefficients.length - 1;
            long[] row = Arrays.copyOf(coefficients, coefficients.length);
            int found = 0;
            for (int low = 0; low < degree; low++) {
                for (int k = degree - 1; k >= low; k--) {
                    row[k] += v * row[k + 1];
                }
                if (row[low] != 0) {
                    break;
                }
                found++;
            }
            return found;
        }
    }

    /** The formulas for M from 1 to 60. */
    private static final class Formulas {
        /** The values of new found so far, NONE elsewhere: none of them is below 0. */
        private final int[] news;

        Formulas() {
            news = new int[MOST_FORMULA + 1];
            Arrays.fill(news, NONE);
        }

        static int index(int m) {
            int result = m;
            for (int p = 2; p <= m; p++) {
                if (primeDivides(p, m)) {
                    result = result / p * (p + 1);
                }
            }
            return result;
        }

        static int orderTwo(int m) {
            int result = m % 4 == 0 ? 0 : 1;
            for (int p = 3; p <= m; p++) {
                if (primeDivides(p, m)) {
                    result *= p % 4 == 1 ? 2 : 0;
                }
            }
            return result;
        }

        static int orderThree(int m) {
            int result = m % 9 == 0 ? 0 : 1;
            for (int p = 2; p <= m; p++) {
                if (p != 3 && primeDivides(p, m)) {
                    result *= p % 3 == 1 ? 2 : 0;
                }
            }
            return result;
        }

        static int ends(int m) {
            int total = 0;
            for (int t = 1; t <= m; t++) {
                if (m % t == 0) {
                    total += coprimes(gcd(t, m / t));
                }
            }
            return total;
        }

        static int forms(int m) {
            return 1 + (index(m) - 3 * orderTwo(m) - 4 * orderThree(m) - 6 * ends(m)) / 12;
        }

        int newForms(int m) {
            for (int t = 1; t <= m; t++) {
                if (m % t == 0 && news[t] == NONE) {
                    news[t] = forms(t) - oldForms(t);
                }
            }
            return news[m];
        }

        /** Needs the news of all divisors of m other than m. */
        private int oldForms(int m) {
            int total = 0;
            for (int t = 1; t < m; t++) {
                if (m % t == 0) {
                    total += news[t] * divisors(m / t);
                }
            }
            return total;
        }

        private static int divisors(int m) {
            int found = 0;
            for (int t = 1; t <= m; t++) {
                if (m % t == 0) {
                    found++;
                }
            }
            return found;
        }

        private static int coprimes(int k) {
            int found = 0;
            for (int t = 1; t <= k; t++) {
                if (gcd(t, k) == 1) {
                    found++;
                }
            }
            return found;
        }

        private static boolean primeDivides(int p, int m) {
            return m % p == 0 && divisors(p) == 2;
        }
    }
}
