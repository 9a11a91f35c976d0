import java.util.ArrayList;
import java.util.List;
import java.util.TreeSet;

/**
 * The document told a second time, in the slowest and plainest way: paths are walked, blocks are
 * listed, and all states are tried one after the other. ModelTest holds the program against it.
 */
final class Model {
    private final List<int[]> program = new ArrayList<>();
    private final int[] starts = new int[12];
    private final int[] results = new int[14];
    private final int[] counts = new int[3];

    private static boolean from0To(int most, int value) {
        return 0 <= value && value <= most;
    }

    private static void checkFields(int operation, int d, int s, int t) {
        boolean fits;
        if (operation == 15) {
            fits = d == 0 && s == 0 && t == 0;
        } else if (operation == 14) {
            fits = d == 0 && s == 0 && from0To(24, t);
        } else {
            int most = operation < 6 ? 3 : operation < 10 ? 15 : operation < 12 ? 7 : 24;
            fits = from0To(13, operation) && from0To(3, d) && from0To(3, s) && from0To(most, t);
        }
        if (!fits) {
            throw new IllegalArgumentException();
        }
    }

    private boolean isPlace(int place) {
        return place >= 0 && place < program.size();
    }

    private void checkPlace(int place) {
        if (!isPlace(place)) {
            throw new IndexOutOfBoundsException();
        }
    }

    int add(int operation, int d, int s, int t) {
        checkFields(operation, d, s, t);
        if (program.size() == 24) {
            throw new IllegalStateException();
        }
        program.add(new int[] {operation, d, s, t});
        return program.size() - 1;
    }

    void replace(int place, int operation, int d, int s, int t) {
        checkFields(operation, d, s, t);
        checkPlace(place);
        program.set(place, new int[] {operation, d, s, t});
    }

    int clear() {
        int had = program.size();
        program.clear();
        return had;
    }

    int size() {
        return program.size();
    }

    int instruction(int place, int what) {
        if (!from0To(3, what)) {
            throw new IllegalArgumentException();
        }
        checkPlace(place);
        return program.get(place)[what];
    }

    void start(int number, int v) {
        if (number == 0 || !from0To(11, number) || !from0To(15, v)) {
            throw new IllegalArgumentException();
        }
        starts[number] = v;
    }

    private static int plainValue(int[] i, int[] registers) {
        int s = registers[i[2]];
        int t = i[0] < 6 ? registers[i[3]] : i[3];
        switch (i[0]) {
            case 0: case 6: return (s + t) % 16;
            case 1: return (s - t + 16) % 16;
            case 2: case 7: return s & t;
            case 3: return s | t;
            case 4: case 8: return s ^ t;
            case 5: return s < t ? 1 : 0;
            default: return (s << t) % 16;
        }
    }

    int run(int limit) {
        if (!from0To(500, limit)) {
            throw new IllegalArgumentException();
        }
        int[] registers = new int[4];
        int[] cells = new int[8];
        System.arraycopy(starts, 0, registers, 0, 4);
        System.arraycopy(starts, 4, cells, 0, 8);
        int place = 0;
        int done = 0;
        boolean halted = false;
        while (done < limit && !halted && isPlace(place)) {
            int[] i = program.get(place);
            place++;
            done++;
            if (i[0] <= 9) {
                registers[i[1]] = plainValue(i, registers);
            } else if (i[0] == 10) {
                registers[i[1]] = cells[(registers[i[2]] + i[3]) % 8];
            } else if (i[0] == 11) {
                cells[(registers[i[2]] + i[3]) % 8] = registers[i[1]];
            } else if (i[0] == 15) {
                halted = true;
            } else {
                boolean equal = registers[i[1]] == registers[i[2]];
                if (i[0] == 14 || (i[0] == 12) == equal) {
                    place = i[3];
                }
            }
            registers[0] = 0;
        }
        System.arraycopy(registers, 0, results, 0, 4);
        System.arraycopy(cells, 0, results, 4, 8);
        results[12] = halted || !isPlace(place) ? 1 : 0;
        results[13] = place;
        return done;
    }

    int result(int what) {
        return from0To(13, what) ? results[what] : -1;
    }

    /** Walks every path from a place until the register is read or written. */
    private boolean isLive(int register, int place, TreeSet<Integer> seen) {
        if (!isPlace(place)) {
            return true;
        }
        if (!seen.add(place)) {
            return false;
        }
        int[] i = program.get(place);
        boolean readsD = i[0] >= 11 && i[0] <= 13;
        boolean readsS = i[0] <= 13;
        boolean readsT = i[0] <= 5;
        if (i[0] == 15 || readsD && i[1] == register || readsS && i[2] == register
                || readsT && i[3] == register) {
            return true;
        }
        if (i[0] <= 10 && i[1] == register) {
            return false;
        }
        boolean goesToT = i[0] >= 12;
        boolean goesToNext = i[0] != 14;
        return goesToT && isLive(register, i[3], seen)
                || goesToNext && isLive(register, place + 1, seen);
    }

    private int liveBefore(int place) {
        int sum = 0;
        for (int register = 1; register <= 3; register++) {
            if (isLive(register, place, new TreeSet<>())) {
                sum += 1 << register;
            }
        }
        return sum;
    }

    int live(int place) {
        if (!from0To(program.size(), place)) {
            throw new IndexOutOfBoundsException();
        }
        return liveBefore(place);
    }

    private TreeSet<Integer> begins() {
        TreeSet<Integer> begins = new TreeSet<>();
        begins.add(0);
        for (int place = 0; place < program.size(); place++) {
            int[] i = program.get(place);
            if (i[0] >= 12) {
                begins.add(place + 1);
            }
            if (i[0] >= 12 && i[0] <= 14) {
                begins.add(i[3]);
            }
        }
        return begins;
    }

    int block(int place) {
        checkPlace(place);
        return begins().floor(place);
    }

    private static void perform(List<int[]> row, int[] registers) {
        for (int[] i : row) {
            registers[i[1]] = plainValue(i, registers);
            registers[0] = 0;
        }
    }

    private static boolean agree(List<int[]> row, List<int[]> other, int set) {
        int[] a = new int[4];
        int[] b = new int[4];
        for (int state = 0; state < 4096; state++) {
            for (int r = 1; r <= 3; r++) {
                a[r] = b[r] = state >> 4 * (r - 1) & 15;
            }
            perform(row, a);
            perform(other, b);
            for (int r = 0; r <= 3; r++) {
                if ((set >> r & 1) == 1 && a[r] != b[r]) {
                    return false;
                }
            }
        }
        return true;
    }

    private List<int[]> taken(int place, int n) {
        List<int[]> row = new ArrayList<>();
        for (int i = 0; i < n; i++) {
            if (place < 0 || place >= program.size() - i) {
                throw new IndexOutOfBoundsException();
            }
            row.add(program.get(place + i));
        }
        return row;
    }

    private static boolean isPlain(List<int[]> row) {
        return row.stream().allMatch(i -> i[0] <= 9);
    }

    boolean same(int p, int n, int q, int m, int registers) {
        if (!from0To(3, n) || !from0To(3, m) || !from0To(15, registers)) {
            throw new IllegalArgumentException();
        }
        List<int[]> row = taken(p, n);
        List<int[]> other = taken(q, m);
        if (!isPlain(row) || !isPlain(other)) {
            throw new UnsupportedOperationException();
        }
        return agree(row, other, registers);
    }

    private static List<List<int[]>> candidates(List<int[]> row) {
        List<List<int[]>> all = new ArrayList<>();
        all.add(List.of());
        TreeSet<Integer> numbers = new TreeSet<>(List.of(0, 1, 15));
        row.stream().filter(i -> i[0] >= 6).forEach(i -> numbers.add(i[3]));
        TreeSet<Integer> registers = new TreeSet<>(List.of(0, 1, 2, 3));
        for (int operation = 0; operation <= 9 && row.size() > 1; operation++) {
            for (int d = 1; d <= 3; d++) {
                for (int s = 0; s <= 3; s++) {
                    for (int t : operation < 6 ? registers : numbers) {
                        all.add(List.of(new int[] {operation, d, s, t}));
                    }
                }
            }
        }
        return all;
    }

    private boolean isRow(int place, int n) {
        if (place + n > program.size() || !isPlain(program.subList(place, place + n))) {
            return false;
        }
        return block(place) == block(place + n - 1);
    }

    private List<int[]> replacement(int place, int n) {
        List<int[]> row = new ArrayList<>(program.subList(place, place + n));
        int live = liveBefore(place + n);
        for (List<int[]> candidate : candidates(row)) {
            counts[2]++;
            if (agree(row, candidate, live)) {
                return candidate;
            }
        }
        return null;
    }

    int improve() {
        int had = program.size();
        int place = 0;
        while (place < program.size()) {
            List<int[]> found = null;
            for (int n = 3; n >= 1 && found == null; n--) {
                found = isRow(place, n) ? replacement(place, n) : null;
                if (found != null) {
                    put(place, n, found);
                }
            }
            place += found == null ? 1 : found.size();
        }
        return had - program.size();
    }

    private void put(int place, int n, List<int[]> found) {
        program.subList(place, place + n).clear();
        program.addAll(place, found);
        for (int at = 0; at < program.size(); at++) {
            int[] i = program.get(at);
            if (i[0] >= 12 && i[0] <= 14 && i[3] > place) {
                program.set(at, new int[] {i[0], i[1], i[2], i[3] - (n - found.size())});
            }
        }
        counts[0]++;
        counts[1] += found.isEmpty() ? 1 : 0;
    }

    int count(int what) {
        return from0To(2, what) ? counts[what] : -1;
    }
}
