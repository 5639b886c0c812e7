import java.nio.charset.StandardCharsets;
import java.util.ArrayList;
import java.util.List;
import java.util.Random;

/** Runs of 512 calls, drawn by seeds, whose answers must be those of Model; nothing may be thrown. */
public final class RandomTest {
    private static final int RUNS = 400;
    private static final int CALLS = 512;
    private static final int[] EDGES = {
        Integer.MIN_VALUE, -1000000, -3, -2, -1, 0, 1, 2, 3, 4, 5, 6, 7, 8, 11, 12, 23, 24, 25, 39, 40, 41, 47, 48, 49,
        127, 128, 200, 201, 255, 256, 399, 400, 999, 1000, 9999, 10000, 32767, 32768, 999999, 1000000, Integer.MAX_VALUE};
    /** Names with how often each is drawn, and how many arguments it has. */
    private static final String[] NAMES = {
        "row 2 3", "set 6 3", "copy 2 5", "drop 1 1", "fault 1 0", "hours 6 1", "lend 14 3", "pay 8 3", "storm 3 1",
        "settle 2 0", "undo 4 0", "water 8 2", "owes 6 2", "ahead 6 3", "sail 6 4", "net 8 2", "least 6 4", "run 4 0",
        "frauds 4 2", "image 1 1", "restore 1 1", "kind 2 1", "as 3 2", "ask 3 2", "trace 4 1", "count 6 1", "status 5 0"};

    private final Random draws;
    private final TideDebts x = new TideDebts();
    private final Model model = new Model();
    private final List<String> told = new ArrayList<>();
    private boolean wrong = false;

    private RandomTest(long seed) {
        draws = new Random(seed);
    }

    public static void main(String[] args) {
        int wrongRuns = 0;
        for (int seed = 0; seed < RUNS; seed++) {
            RandomTest run = new RandomTest(seed);
            run.go();
            if (run.wrong) {
                wrongRuns++;
                int from = Math.max(0, run.told.size() - 20);
                System.out.println("run " + seed + ", its last calls: " + run.told.subList(from, run.told.size()));
            }
        }
        System.out.println(RUNS + " runs, " + wrongRuns + " not as due");
        if (wrongRuns != 0) {
            System.exit(1);
        }
    }

    private void go() {
        if (draws.nextInt(8) > 0) {
            text(goodText());
        }
        while (told.size() < CALLS && !wrong) {
            int draw = draws.nextInt(200);
            if (draw == 0) {
                text(goodText());
            } else if (draw == 1) {
                text(spoilt(goodText()));
            } else if (draw == 2) {
                call("feed", draws.nextLong(), edge());
            } else {
                drawnCall();
            }
        }
    }

    private int edge() {
        return EDGES[draws.nextInt(EDGES.length)];
    }

    private void drawnCall() {
        int all = 0;
        for (String n : NAMES) {
            all += Integer.parseInt(n.split(" ")[1]);
        }
        int draw = draws.nextInt(all);
        for (String n : NAMES) {
            String[] parts = n.split(" ");
            draw -= Integer.parseInt(parts[1]);
            if (draw < 0) {
                call(parts[0], arguments(parts[0], Integer.parseInt(parts[2])));
                return;
            }
        }
    }

    private long[] arguments(String name, int n) {
        long[] a = new long[n];
        for (int i = 0; i < n; i++) {
            a[i] = draws.nextInt(30) == 0 ? edge() : likely(name, i);
        }
        if (name.equals("frauds") && draws.nextInt(2) == 0) {
            tellRow((int) a[0]);
            a[1] = 0;
        }
        return a;
    }

    /** Fills a row with what is due, but for an item or two. */
    private void tellRow(int row) {
        int waters = model.call("count", new long[] {1});
        call("row", row, 2, waters);
        for (int w = 0; w < waters; w++) {
            if (draws.nextInt(8) > 0) {
                call("set", row, w, model.call("ahead", new long[] {w, 1, 0}));
            }
        }
    }

    private int likely(String name, int i) {
        switch (name + i) {
            case "row1", "set1", "copy1", "copy3", "frauds1", "copy4":
                return draws.nextInt(4);
            case "row2":
                return draws.nextInt(12);
            case "set2":
                return draws.nextInt(4) == 0 ? draws.nextInt() : draws.nextInt(60);
            case "row0", "set0", "copy0", "copy2", "drop0", "frauds0":
                return draws.nextInt(3);
            case "hours0":
                return draws.nextInt(3) == 0 ? 1 + draws.nextInt(24) : 1 + draws.nextInt(3);
            case "lend2", "pay2":
                return 1 + draws.nextInt(draws.nextInt(3) == 0 ? 150 : 20);
            case "storm0":
                return 1 + draws.nextInt(999999);
            case "water1":
                return draws.nextInt(4);
            case "ahead1":
                return draws.nextInt(49);
            case "ahead2", "net1":
                return draws.nextInt(3);
            case "sail1", "least2":
                return draws.nextInt(draws.nextInt(2) == 0 ? 60 : 400);
            case "sail2":
                return 1 + draws.nextInt(24);
            case "sail3", "ask1", "image0", "restore0":
                return draws.nextInt(2);
            case "net0":
                return draws.nextInt(7) - 2;
            case "least3":
                return draws.nextInt(25);
            case "as1":
                return draws.nextInt(6);
            case "trace0", "count0":
                return draws.nextInt(7);
            default:
                return draws.nextInt(6);
        }
    }

    private String goodText() {
        StringBuilder s = new StringBuilder("tide");
        int shape = draws.nextInt(4);
        int level = draws.nextInt(41);
        for (int h = 0; h < 12; h++) {
            s.append(blank()).append(level);
            int step = shape == 0 ? draws.nextInt(3) - 1 : shape == 1 ? draws.nextInt(9) - 4 : draws.nextInt(41) - level;
            level = Math.max(0, Math.min(40, level + step));
        }
        s.append(draws.nextInt(3) == 0 ? " ;" : ";");
        String[] sorts = {"cove", "pool", "lagoon", "well", "dyke"};
        int waters = draws.nextInt(5) == 0 ? draws.nextInt(7) : 3 + draws.nextInt(4);
        for (int w = 0; w < waters; w++) {
            s.append("water ").append(sorts[draws.nextInt(5)]).append(blank());
            s.append(draws.nextInt(draws.nextInt(2) == 0 ? 201 : 30)).append(blank()).append(draws.nextInt(41)).append(';');
        }
        return s.toString();
    }

    private String blank() {
        return draws.nextInt(12) == 0 ? "\n " : " ";
    }

    private String spoilt(String good) {
        StringBuilder s = new StringBuilder(good);
        int at = draws.nextInt(s.length());
        String signs = "; \n0959az!A-" + (char) 0 + (char) 233;
        switch (draws.nextInt(6)) {
            case 0:
                s.deleteCharAt(at);
                break;
            case 1:
                s.insert(at, signs.charAt(draws.nextInt(signs.length())));
                break;
            case 2:
                s.setCharAt(at, signs.charAt(draws.nextInt(signs.length())));
                break;
            case 3:
                s.setLength(at);
                break;
            case 4:
                s.append("water cove 1 1;".repeat(1 + draws.nextInt(7)));
                break;
            default:
                int blank = s.indexOf(" ", at);
                s.insert(blank < 0 ? at : blank + 1, draws.nextInt(1200));
        }
        return s.toString();
    }

    private void text(String text) {
        byte[] bytes = text.getBytes(StandardCharsets.ISO_8859_1);
        for (int i = 0; i < bytes.length; ) {
            int n = Math.min(1 + draws.nextInt(8), bytes.length - i);
            long w = draws.nextInt(2) == 0 ? draws.nextLong() : 0;
            for (int b = 0; b < n; b++) {
                w = w << 8 | bytes[i + b] & 255;
            }
            call("feed", w, n);
            i += n;
        }
        call("bay");
    }

    private void call(String name, long... a) {
        if (wrong || told.size() >= CALLS) {
            return;
        }
        int due = model.call(name, a);
        StringBuilder s = new StringBuilder(name);
        for (long v : a) {
            s.append(' ').append(v);
        }
        int got;
        try {
            got = Calls.call(x, name, a);
        } catch (RuntimeException thrown) {
            told.add(s + " threw " + thrown);
            wrong = true;
            return;
        }
        told.add(s + " -> " + got);
        if (got != due) {
            wrong = true;
            told.add("due is " + due);
        }
    }
}
