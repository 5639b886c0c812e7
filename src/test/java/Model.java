import java.util.ArrayDeque;
import java.util.ArrayList;
import java.util.Arrays;
import java.util.List;
import java.util.Map;
import java.util.TreeMap;
import java.util.regex.Matcher;
import java.util.regex.Pattern;

/** The document told a second time, slowly and with the whole library: RandomTest sets the class against it. */
final class Model {
    static final int NONE = -1000000, BAD = -1000001, STATE = -1000002, FULL = -1000003;

    /** A refusal or a finding on its way out of a call. */
    private static final class Answer extends RuntimeException {
        private static final long serialVersionUID = 1;
        final int answer;

        Answer(int answer) {
            super(null, null, false, false);
            this.answer = answer;
        }
    }

    private record Row(int lane, int[] items) {
    }

    private static final class Water {
        String sort;
        int depth;
        int sill;
        int arrears;
        Map<Integer, Integer> owes = new TreeMap<>();

        Water copyOf() {
            Water w = new Water();
            w.sort = sort;
            w.depth = depth;
            w.sill = sill;
            w.arrears = arrears;
            w.owes = new TreeMap<>(owes);
            return w;
        }

        int owesTo(int other) {
            return owes.getOrDefault(other, 0);
        }

        int owesInAll() {
            return owes.values().stream().mapToInt(Integer::intValue).sum();
        }
    }

    private static final class Bay {
        List<Integer> tide = new ArrayList<>();
        List<Water> waters = new ArrayList<>();
        int hour;

        Bay copyOf() {
            Bay b = new Bay();
            b.tide = tide;
            b.hour = hour;
            for (Water w : waters) {
                b.waters.add(w.copyOf());
            }
            return b;
        }

        int balance(int water) {
            int sum = waters.get(water).owesInAll();
            for (Water w : waters) {
                sum -= w.owesTo(water);
            }
            return sum;
        }

        int hourGoesBy() {
            int here = tide.get(hour % 12);
            int next = tide.get((hour + 1) % 12);
            int before = tide.get((hour + 11) % 12);
            for (Water w : waters) {
                int change = switch (w.sort) {
                    case "cove" -> next - here;
                    case "lagoon" -> (next - here) / 2;
                    case "pool" -> next >= w.sill ? next - here : 0;
                    case "well" -> here - before;
                    default -> 0;
                };
                for (int inch = 0; inch < change; inch++) {
                    if (w.arrears > 0) {
                        w.arrears--;
                    } else {
                        w.depth++;
                    }
                }
                for (int inch = 0; inch < -change; inch++) {
                    if (w.depth > 0) {
                        w.depth--;
                    } else {
                        w.arrears++;
                    }
                }
            }
            if (Math.abs(next - here) <= 1) {
                waters.forEach(w -> w.owes.replaceAll((to, debt) -> Math.min(9999, debt + debt / 10)));
            }
            hour++;
            return next - here;
        }

        Bay ahead(int n) {
            Bay b = copyOf();
            for (int i = 0; i < n; i++) {
                b.hourGoesBy();
            }
            return b;
        }

        List<int[]> gifts() {
            int[] balances = new int[waters.size()];
            Arrays.setAll(balances, this::balance);
            List<int[]> gifts = new ArrayList<>();
            while (Arrays.stream(balances).anyMatch(b -> b > 0)) {
                int from = 0;
                while (balances[from] <= 0) {
                    from++;
                }
                int to = 0;
                while (balances[to] >= 0) {
                    to++;
                }
                int much = Math.min(balances[from], -balances[to]);
                balances[from] -= much;
                balances[to] += much;
                gifts.add(new int[] {from, to, much});
            }
            return gifts;
        }

        boolean canBe() {
            for (int w = 0; w < waters.size(); w++) {
                if (waters.get(w).depth < balance(w)) {
                    return false;
                }
            }
            return true;
        }
    }

    private static final List<String> KINDS = List.of("water", "cove", "lagoon", "pool", "dyke", "well");
    private static final Map<String, String> IS = Map.of(
        "cove", "water", "lagoon", "cove", "pool", "cove", "dyke", "water", "well", "dyke");
    private static final Pattern TOKEN = Pattern.compile("[a-z]+|[0-9]+|;|[^a-z0-9; \n]", Pattern.DOTALL);

    private final Row[] rows = new Row[8];
    private final StringBuilder tape = new StringBuilder();
    private final ArrayDeque<Bay> past = new ArrayDeque<>();
    private final Bay[] images = new Bay[2];
    private final List<Integer> trace = new ArrayList<>();
    private Bay bay;
    private int fault;
    private int status;

    int call(String name, long[] a) {
        int[] n = new int[a.length];
        for (int i = 0; i < a.length; i++) {
            n[i] = (int) a[i];
        }
        try {
            int answer = answer(name, a, n);
            if (List.of("row", "set", "copy", "drop", "frauds", "as").contains(name)) {
                status = 0;
            }
            return answer;
        } catch (Answer refused) {
            if (refused.answer <= -1000011 && refused.answer >= -1000015) {
                status = -1000010 - refused.answer;
            }
            return refused.answer;
        }
    }

    private int answer(String name, long[] a, int[] n) {
        switch (name) {
            case "row", "set", "copy", "drop":
                return ofRows(name, n);
            case "feed", "bay", "fault":
                return ofTexts(name, a, n);
            case "hours", "lend", "pay", "storm", "settle", "undo":
                return ofActs(name, n);
            case "kind", "as", "ask", "trace", "count", "status", "water", "owes":
                return asked(name, n);
            default:
                return foretold(name, n);
        }
    }

    private static void need(boolean so, int refusal) {
        if (!so) {
            throw new Answer(refusal);
        }
    }

    private static boolean within(int v, int least, int most) {
        return least <= v && v <= most;
    }

    private Row row(int number) {
        need(rows[number] != null, -1000011);
        return rows[number];
    }

    private static void needPlaces(Row row, int from, int n) {
        need(from >= 0 && n >= 0 && (long) from + n <= row.items.length, -1000012);
    }

    private Water water(int number) {
        need(bay != null && within(number, 0, bay.waters.size() - 1), BAD);
        return bay.waters.get(number);
    }

    private int ofRows(String name, int[] n) {
        need(within(n[0], 0, 7), BAD);
        switch (name) {
            case "row":
                need(within(n[1], 0, 2) && n[2] <= 40, BAD);
                need(n[2] >= 0, -1000014);
                rows[n[0]] = new Row(n[1], new int[n[2]]);
                return n[2];
            case "set":
                needPlaces(row(n[0]), n[1], 1);
                int bits = 8 << rows[n[0]].lane;
                return rows[n[0]].items[n[1]] = n[2] << 32 - bits >> 32 - bits;
            case "copy":
                need(within(n[2], 0, 7), BAD);
                Row a = row(n[0]);
                Row b = row(n[2]);
                need(a.lane == b.lane, -1000015);
                needPlaces(a, n[1], n[4]);
                needPlaces(b, n[3], n[4]);
                int[] were = a.items.clone();
                for (int i = 0; i < n[4]; i++) {
                    b.items[n[3] + i] = were[n[1] + i];
                }
                return n[4];
            default:
                int had = row(n[0]).items.length;
                rows[n[0]] = null;
                return had;
        }
    }

    private int ofTexts(String name, long[] a, int[] n) {
        switch (name) {
            case "feed":
                need(within(n[1], 1, 8), BAD);
                need(tape.length() + n[1] <= 400, FULL);
                for (int b = n[1] - 1; b >= 0; b--) {
                    tape.append((char) (a[0] >>> 8 * b & 255));
                }
                return tape.length();
            case "bay":
                String text = tape.toString();
                tape.setLength(0);
                bay = read(text);
                past.clear();
                return bay.waters.size();
            default:
                return fault;
        }
    }

    /** What may come next is one of: a word of a set, a number up to one, a ';', or (with a word) the end. */
    private Bay read(String text) {
        Bay b = new Bay();
        Matcher m = TOKEN.matcher(text);
        expect(m, text, "tide");
        for (int h = 0; h < 12; h++) {
            b.tide.add(number(m, text, 40));
        }
        expect(m, text, ";");
        while (m.find()) {
            faultIf(!m.group().equals("water"), 1, m.start());
            faultIf(b.waters.size() == 6, 3, m.start());
            Water w = new Water();
            w.sort = expect(m, text, "cove", "pool", "lagoon", "well", "dyke");
            w.depth = number(m, text, 200);
            w.sill = number(m, text, 40);
            expect(m, text, ";");
            b.waters.add(w);
        }
        return b;
    }

    private String expect(Matcher m, String text, String... words) {
        faultIf(!m.find(), 1, text.length());
        faultIf(!List.of(words).contains(m.group()), 1, m.start());
        return m.group();
    }

    private int number(Matcher m, String text, int most) {
        faultIf(!m.find(), 1, text.length());
        faultIf(!m.group().matches("[0-9]{1,3}"), 1, m.start());
        faultIf(Integer.parseInt(m.group()) > most, 2, m.start());
        return Integer.parseInt(m.group());
    }

    private void faultIf(boolean so, int number, int place) {
        if (so) {
            fault = number;
            throw new Answer(-1000100 - place);
        }
    }

    private void act() {
        past.addLast(bay.copyOf());
        if (past.size() > 24) {
            past.removeFirst();
        }
    }

    private int ofActs(String name, int[] n) {
        switch (name) {
            case "hours":
                need(bay != null, STATE);
                need(within(n[0], 1, 24), BAD);
                need(bay.hour + n[0] <= 999, FULL);
                int rise = 0;
                for (int h = 0; h < n[0]; h++) {
                    act();
                    rise = bay.hourGoesBy();
                }
                return rise;
            case "lend", "pay":
                boolean loan = name.equals("lend");
                Water from = water(n[0]);
                Water to = water(n[1]);
                need(n[0] != n[1] && within(n[2], 1, loan ? 999 : 9999), BAD);
                need(from.depth >= n[2] && (loan || from.owesTo(n[1]) >= n[2]), STATE);
                need(!loan || to.owesTo(n[0]) + n[2] <= 9999, FULL);
                act();
                from.depth -= n[2];
                to.depth += n[2];
                return loan ? to.owes.merge(n[0], n[2], Integer::sum) : from.owes.merge(n[1], -n[2], Integer::sum);
            case "storm":
                need(bay != null, STATE);
                need(within(n[0], 1, 999999), BAD);
                act();
                long x = n[0];
                int sum = 0;
                for (Water w : bay.waters) {
                    x = x * 16807 % 2147483647L;
                    w.depth += (int) (x % 9);
                    w.arrears += (int) (x % 9);
                    sum += (int) (x % 9);
                }
                return sum;
            case "settle":
                need(bay != null && bay.canBe(), STATE);
                act();
                int moved = 0;
                for (int[] gift : bay.gifts()) {
                    bay.waters.get(gift[0]).depth -= gift[2];
                    bay.waters.get(gift[1]).depth += gift[2];
                    moved += gift[2];
                }
                bay.waters.forEach(w -> w.owes.clear());
                return moved;
            default:
                need(!past.isEmpty(), STATE);
                bay = past.removeLast();
                return past.size();
        }
    }

    private int foretold(String name, int[] n) {
        switch (name) {
            case "ahead":
                water(n[0]);
                need(within(n[1], 0, 48) && within(n[2], 0, 2), BAD);
                Water then = bay.ahead(n[1]).waters.get(n[0]);
                return new int[] {then.depth, then.arrears, then.owesInAll()}[n[2]];
            case "sail":
                water(n[0]);
                need(within(n[1], 0, 999) && within(n[2], 1, 24) && within(n[3], 0, 1), BAD);
                for (int out = 0; out <= 24; out++) {
                    if (bay.ahead(out).waters.get(n[0]).depth >= n[1]) {
                        return n[3] == 0 ? out : home(n, out);
                    }
                }
                return NONE;
            case "net":
                need(bay != null, STATE);
                need(n[0] >= -2 && within(n[1], 0, 2), BAD);
                if (n[0] == -2) {
                    return bay.canBe() ? 1 : 0;
                }
                List<int[]> gifts = bay.gifts();
                need(n[0] < gifts.size(), NONE);
                return n[0] == -1 ? gifts.size() : gifts.get(n[0])[n[1]];
            case "least":
                Water b = water(n[1]);
                water(n[0]);
                need(n[0] != n[1] && within(n[2], 0, 999) && within(n[3], 0, 24), BAD);
                for (int loan = 0; loan <= b.depth; loan++) {
                    Bay lent = bay.copyOf();
                    lent.waters.get(n[0]).depth += loan;
                    if (lent.ahead(n[3]).waters.get(n[0]).depth >= n[2]) {
                        return loan;
                    }
                }
                return NONE;
            case "run":
                need(bay != null, STATE);
                return runOn(bay.copyOf());
            case "frauds":
                return frauds(n);
            default:
                need(within(n[0], 0, 1), BAD);
                boolean image = name.equals("image");
                need((image ? bay : images[n[0]]) != null, STATE);
                if (image) {
                    images[n[0]] = bay.copyOf();
                } else {
                    bay = images[n[0]].copyOf();
                    past.clear();
                }
                return 1;
        }
    }

    private int home(int[] n, int out) {
        for (int h = out + n[2]; h <= 48; h++) {
            if (bay.ahead(h).waters.get(n[0]).depth >= n[1]) {
                return h;
            }
        }
        return NONE;
    }

    private static int runOn(Bay b) {
        int bits = 0;
        for (int w = 0; w < b.waters.size(); w++) {
            Water payer = b.waters.get(w);
            for (Map.Entry<Integer, Integer> debt : payer.owes.entrySet()) {
                int pays = Math.min(payer.depth, debt.getValue());
                payer.depth -= pays;
                b.waters.get(debt.getKey()).depth += pays;
                bits |= pays < debt.getValue() ? 1 << w : 0;
            }
        }
        return bits;
    }

    private int frauds(int[] n) {
        need(bay != null, STATE);
        need(within(n[0], 0, 7), BAD);
        Row told = row(n[0]);
        int count = bay.waters.size();
        needPlaces(told, n[1], count);
        int[] items = Arrays.copyOfRange(told.items, n[1], n[1] + count);
        need(Arrays.stream(items).allMatch(i -> i >= 0), BAD);
        int bits = 0;
        for (int w = 0; w < count; w++) {
            bits |= bay.ahead(1).waters.get(w).depth == items[w] ? 0 : 1 << w;
        }
        return bits;
    }

    private int asked(String name, int[] n) {
        switch (name) {
            case "water":
                Water w = water(n[0]);
                need(within(n[1], 0, 3), BAD);
                return new int[] {w.depth, w.arrears, w.sill, bay.balance(n[0])}[n[1]];
            case "owes":
                water(n[1]);
                Water who = water(n[0]);
                need(n[0] != n[1], BAD);
                return who.owesTo(n[1]);
            case "kind":
                return KINDS.indexOf(water(n[0]).sort);
            case "as":
                Water as = water(n[0]);
                need(within(n[1], 0, 5), BAD);
                for (String k = as.sort; k != null; k = IS.get(k)) {
                    if (KINDS.get(n[1]).equals(k)) {
                        return n[0];
                    }
                }
                throw new Answer(-1000013);
            case "ask":
                water(n[0]);
                need(within(n[1], 0, 1), BAD);
                trace.clear();
                return n[1] == 0 ? size(n[0]) : mark(n[0]);
            case "trace":
                need(within(n[0], 0, trace.size() - 1), NONE);
                return trace.get(n[0]);
            case "count":
                return count(n[0]);
            default:
                return status;
        }
    }

    private int size(int w) {
        Water water = bay.waters.get(w);
        switch (water.sort) {
            case "lagoon":
                trace.add(12);
                trace.add(11);
                trace.add(10);
                return -(water.depth + mark(w));
            case "cove", "pool":
                trace.add(11);
                trace.add(10);
                return water.depth + mark(w);
            case "well":
                trace.add(14);
                trace.add(13);
                trace.add(10);
                return 2 * (water.depth - 100);
            default:
                trace.add(13);
                trace.add(10);
                return water.depth - 100;
        }
    }

    private int mark(int w) {
        Water water = bay.waters.get(w);
        switch (water.sort) {
            case "lagoon":
                trace.addAll(List.of(24, 21, 20));
                return 2 * (w + water.sill);
            case "pool":
                trace.addAll(List.of(22, 21, 20));
                return w + water.sill - 1000;
            case "cove":
                trace.addAll(List.of(21, 20));
                return w + water.sill;
            default:
                trace.addAll(List.of(23, 20));
                return w - size(w);
        }
    }

    private int count(int what) {
        List<Water> waters = bay == null ? List.of() : bay.waters;
        return switch (what) {
            case 0 -> (int) Arrays.stream(rows).filter(r -> r != null).count();
            case 1 -> waters.size();
            case 2 -> bay == null ? 0 : bay.hour;
            case 3 -> waters.stream().mapToInt(w -> w.depth).sum();
            case 4 -> past.size();
            case 5 -> (int) waters.stream().flatMap(w -> w.owes.values().stream()).filter(d -> d > 0).count();
            case 6 -> tape.length();
            default -> BAD;
        };
    }
}
