import java.math.BigInteger;
import java.util.ArrayList;
import java.util.Arrays;
import java.util.HashMap;
import java.util.List;
import java.util.Map;
import java.util.Random;

/** A second, plain reading of the document: slow, with the library's help, made from a random case. */
final class Model {
    final String text;
    final int helds;
    final int holders;
    private final int[] salts;
    private final int[] sisters;
    private final int[][] values;
    private final boolean[][] feud;
    private final Phrase swaps;
    private final Phrase pays;
    private final int fog;
    private long seed = 1;
    private List<int[]> notes = new ArrayList<>();
    int judgedWho = -1;
    int judgedPay = -1;
    private World now = new World();
    private final List<World> past = new ArrayList<>();

    private static final class World {
        int night;
        int[] has;
        int[] wants;
        int[] purse;
        int[][] met;
        List<int[]> kept = new ArrayList<>();

        World copy() {
            World w = new World();
            w.night = night;
            w.has = has.clone();
            w.wants = wants.clone();
            w.purse = purse.clone();
            w.met = new int[met.length][];
            for (int k = 0; k < met.length; k++) {
                w.met[k] = met[k].clone();
            }
            w.kept = new ArrayList<>(kept);
            return w;
        }
    }

    Model(Random r) {
        StringBuilder s = new StringBuilder();
        helds = r.nextInt(7);
        holders = helds == 0 ? 0 : r.nextInt(3) == 0 ? helds : r.nextInt(helds + 1);
        salts = new int[helds];
        sisters = new int[helds];
        values = new int[holders][helds];
        feud = new boolean[holders][holders];
        for (int d = 0; d < helds; d++) {
            salts[d] = r.nextInt(100);
            sisters[d] = -1;
            s.append("held ").append(heldName(d)).append(" salt ").append(salts[d]).append("; ");
        }
        now.has = new int[holders];
        now.wants = new int[holders];
        now.purse = new int[holders];
        now.met = new int[holders][holders];
        List<Integer> hand = shuffled(helds, r);
        List<Integer> wish = r.nextInt(3) == 0 ? hand.subList(0, holders) : shuffled(helds, r);
        List<Integer> mixed = new ArrayList<>(wish);
        java.util.Collections.shuffle(mixed, r);
        for (int h = 0; h < holders; h++) {
            now.has[h] = hand.get(h);
            now.wants[h] = mixed.get(h);
            now.purse[h] = r.nextInt(3) == 0 ? r.nextInt(1000) : r.nextInt(20);
            s.append("holder ").append(holderName(h)).append(" has ").append(heldName(now.has[h])).append(" wants ")
                    .append(heldName(now.wants[h])).append("\npurse ").append(now.purse[h]).append(";");
        }
        tellRelations(s, r);
        swaps = r.nextInt(3) == 0 ? null : Phrase.test(r, false, 0);
        pays = r.nextInt(3) == 0 ? null : Phrase.sum(r, false, 0);
        fog = r.nextInt(3) == 0 ? 0 : r.nextInt(101);
        s.append(fog == 0 ? "" : "fog " + fog + ";");
        s.append(swaps == null ? "" : "swaps " + swaps.text + ";");
        s.append(pays == null ? "" : "pays " + pays.text + " ;");
        text = s.toString();
    }

    private void tellRelations(StringBuilder s, Random r) {
        for (int k = r.nextInt(20); k > 0 && holders > 0; k--) {
            int h = r.nextInt(holders);
            int d = r.nextInt(helds);
            values[h][d] = r.nextInt(2) == 0 ? r.nextInt(100) : r.nextInt(5);
            s.append("values ").append(holderName(h)).append(' ').append(heldName(d)).append(' ').append(values[h][d]).append(';');
        }
        for (int k = r.nextInt(8); k > 0 && holders > 1; k--) {
            int h = r.nextInt(holders);
            int g = r.nextInt(holders);
            if (h != g && !feud[h][g]) {
                feud[h][g] = true;
                feud[g][h] = true;
                s.append("feud ").append(holderName(h)).append(' ').append(holderName(g)).append(';');
            }
        }
        for (int d = 0; d < helds && helds > 1; d++) {
            int e = r.nextInt(helds);
            if (e != d) {
                sisters[d] = e;
                s.append("sister ").append(heldName(d)).append(' ').append(heldName(e)).append(';');
            }
        }
    }

    static String heldName(int d) {
        return "d" + (char) ('a' + d);
    }

    static String holderName(int h) {
        return "hold" + (char) ('z' - h);
    }

    private static List<Integer> shuffled(int many, Random r) {
        List<Integer> all = new ArrayList<>();
        for (int k = 0; k < many; k++) {
            all.add(k);
        }
        java.util.Collections.shuffle(all, r);
        return all;
    }

    int has(int what) {
        int settled = 0;
        int coins = 0;
        int worth = 0;
        int feuds = 0;
        for (int h = 0; h < holders; h++) {
            settled += now.has[h] == now.wants[h] ? 1 : 0;
            coins += now.purse[h];
            worth += values[h][now.has[h]];
            for (int g = 0; g < h; g++) {
                feuds += feud[h][g] ? 1 : 0;
            }
        }
        int[] all = {helds, holders, feuds, fog, now.night, settled, coins, worth,
            Math.min(30, now.kept.size()), notes.size(), past.size()};
        return what < 0 || what >= all.length ? -1 : all[what];
    }

    int keeper(int held) {
        for (int h = 0; h < holders; h++) {
            if (now.has[h] == held) {
                return h;
            }
        }
        return -1;
    }

    int held(int d, int what) {
        int want = 0;
        for (int h = 0; h < holders; h++) {
            want += now.wants[h] == d ? 1 : 0;
        }
        return d < 0 || d >= helds || what < 0 || what > 3 ? -1 : new int[] {salts[d], keeper(d), sisters[d], want}[what];
    }

    int holder(int h, int what) {
        if (h < 0 || h >= holders || what < 0 || what > 4) {
            return -1;
        }
        int bits = 0;
        for (int g = 0; g < holders; g++) {
            bits += feud[h][g] ? 1 << g : 0;
        }
        return new int[] {now.has[h], now.wants[h], now.purse[h], now.has[h] == now.wants[h] ? 1 : 0, bits}[what];
    }

    int values(int h, int d) {
        return h < 0 || h >= holders || d < 0 || d >= helds ? -1 : values[h][d];
    }

    int met(int h, int g) {
        return h < 0 || h >= holders || g < 0 || g >= holders ? -1 : now.met[h][g];
    }

    int kept(int k, int what) {
        int told = Math.min(30, now.kept.size());
        return k < 0 || k >= told || what < 0 || what > 3 ? -1 : now.kept.get(now.kept.size() - told + k)[what];
    }

    private Phrase.Facts inRing(int holder, int giver) {
        return new Phrase.Facts() {
            @Override public long of(String word) {
                int gets = now.has[giver];
                switch (word) {
                    case "gets": return values[holder][gets];
                    case "gives": return values[holder][now.has[holder]];
                    case "wants": return now.wants[holder] == gets ? 1 : 0;
                    case "salt": return salts[gets];
                    case "met": return now.met[holder][giver];
                    case "purse": return now.purse[holder];
                    default: return now.night;
                }
            }

            @Override public long metWith(long number) {
                throw new IllegalStateException();
            }
        };
    }

    private Phrase.Facts asked(int holder) {
        return new Phrase.Facts() {
            @Override public long of(String word) {
                switch (word) {
                    case "number": return holder;
                    case "gives": return values[holder][now.has[holder]];
                    case "wants": return now.wants[holder] == now.has[holder] ? 1 : 0;
                    case "salt": return salts[now.has[holder]];
                    case "purse": return now.purse[holder];
                    default: return now.night;
                }
            }

            @Override public long metWith(long number) {
                return number < 0 || number >= holders ? 0 : now.met[holder][(int) number];
            }
        };
    }

    boolean isRing(int[] row) {
        return row.length >= 2 && row.length <= 6 && Arrays.stream(row).distinct().count() == row.length
                && Arrays.stream(row).allMatch(h -> h >= 0 && h < holders);
    }

    private int[] paid(int[] row) {
        int[] coins = new int[row.length];
        for (int k = 0; k < row.length; k++) {
            int giver = row[(k + row.length - 1) % row.length];
            long sum = pays == null ? 0 : pays.worth.applyAsLong(inRing(row[k], giver));
            coins[k] = (int) Math.max(0, Math.min(999, sum));
        }
        return coins;
    }

    /** Why it would not come about, and by whom. */
    private int[] verdict(int[] row) {
        for (int k = 0; k < row.length; k++) {
            if (feud[row[k]][row[(k + 1) % row.length]]) {
                return new int[] {1, row[k]};
            }
        }
        for (int k = 0; k < row.length; k++) {
            int giver = row[(k + row.length - 1) % row.length];
            if (swaps != null && swaps.worth.applyAsLong(inRing(row[k], giver)) == 0) {
                return new int[] {2, row[k]};
            }
        }
        int[] coins = paid(row);
        for (int k = 0; k < row.length; k++) {
            if (coins[k] > now.purse[row[k]]) {
                return new int[] {3, row[k]};
            }
        }
        return new int[] {0, -1};
    }

    int judge(int[] row) {
        if (!isRing(row)) {
            return -1;
        }
        judgedWho = verdict(row)[1];
        judgedPay = Arrays.stream(paid(row)).sum();
        return verdict(row)[0];
    }

    private int close(int[] row, boolean foggy) {
        int why = foggy ? 4 : verdict(row)[0];
        now.kept.add(new int[] {now.night, why, row.length, row[0]});
        if (why == 0) {
            int[] coins = paid(row);
            World then = now.copy();
            for (int k = 0; k < row.length; k++) {
                int next = (k + 1) % row.length;
                then.has[row[next]] = now.has[row[k]];
                then.purse[row[next]] -= coins[next];
                then.purse[row[k]] += coins[next];
                then.met[row[next]][row[k]] = Math.min(99, now.met[row[next]][row[k]] + 1);
            }
            for (int h = 0; h < holders; h++) {
                then.purse[h] = Math.min(9999, then.purse[h]);
            }
            now = then;
        }
        return why;
    }

    private void act() {
        past.add(now.copy());
        if (past.size() > 20) {
            past.remove(0);
        }
    }

    int ring(int[] row) {
        if (!isRing(row)) {
            return -1;
        }
        act();
        return close(row, false);
    }

    boolean want(int h, int d) {
        if (h < 0 || h >= holders || d < 0 || d >= helds || now.wants[h] == d) {
            return false;
        }
        act();
        now.wants[h] = d;
        return true;
    }

    private int draw(int many) {
        seed = BigInteger.valueOf(1103515245).multiply(BigInteger.valueOf(seed)).add(BigInteger.valueOf(12345))
                .mod(BigInteger.TWO.pow(31)).longValue();
        return (int) (seed / 64 % many);
    }

    int nights(int n) {
        if (n < 1 || n > 100 || now.night + n > 9999) {
            return -1;
        }
        act();
        int came = 0;
        for (int k = 0; k < n; k++) {
            if (holders > 1) {
                List<Integer> all = new ArrayList<>();
                for (int h = 0; h < holders; h++) {
                    all.add(h);
                }
                int one = all.remove(draw(holders));
                int other = all.get(draw(holders - 1));
                came += close(new int[] {one, other}, draw(100) < fog) == 0 ? 1 : 0;
            }
            now.night++;
        }
        return came;
    }

    boolean undo() {
        if (past.isEmpty()) {
            return false;
        }
        now = past.remove(past.size() - 1);
        return true;
    }

    boolean seed(int s) {
        if (s >= 0) {
            seed = s;
        }
        return s >= 0;
    }

    int needed(int holder) {
        if (holder < 0 || holder >= holders || !canSettle()) {
            return -1;
        }
        int size = 1;
        for (int h = keeper(now.wants[holder]); h != holder; h = keeper(now.wants[h])) {
            size++;
        }
        return size;
    }

    private boolean canSettle() {
        return Arrays.stream(now.wants).distinct().count() == holders
                && Arrays.stream(now.wants).allMatch(d -> keeper(d) >= 0);
    }

    int meetings(int most) {
        if (most != 2 && most != 3) {
            return -1;
        }
        Map<String, Integer> steps = new HashMap<>();
        List<int[]> queue = new ArrayList<>();
        queue.add(now.has.clone());
        steps.put(Arrays.toString(now.has), 0);
        for (int k = 0; k < queue.size(); k++) {
            int[] has = queue.get(k);
            int far = steps.get(Arrays.toString(has));
            if (Arrays.equals(has, now.wants)) {
                return far;
            }
            for (int[] row : rows(most)) {
                int[] then = has.clone();
                for (int i = 0; i < row.length; i++) {
                    then[row[(i + 1) % row.length]] = has[row[i]];
                }
                if (steps.putIfAbsent(Arrays.toString(then), far + 1) == null) {
                    queue.add(then);
                }
            }
        }
        return -1;
    }

    private List<int[]> rows(int most) {
        List<int[]> all = new ArrayList<>();
        for (int i = 0; i < holders; i++) {
            for (int j = 0; j < holders; j++) {
                if (i != j && !feud[i][j]) {
                    all.add(new int[] {i, j});
                    for (int k = 0; k < holders && most == 3; k++) {
                        if (k != i && k != j && !feud[j][k] && !feud[k][i]) {
                            all.add(new int[] {i, j, k});
                        }
                    }
                }
            }
        }
        return all;
    }

    int gain(int h, int what) {
        if (h < 0 || h >= holders || what < 0 || what > 1) {
            return -1;
        }
        int sum = 0;
        for (int g = 0; g < holders; g++) {
            if (!feud[h][g] && values[h][now.has[g]] > values[h][now.has[h]] && values[g][now.has[h]] > values[g][now.has[g]]) {
                sum += what == 0 ? 1 : 1 << g;
            }
        }
        return sum;
    }

    int trade(int holder, int what) {
        if (holder < 0 || holder >= holders || what < 0 || what > 2) {
            return -1;
        }
        List<Integer> left = new ArrayList<>();
        for (int h = 0; h < holders; h++) {
            left.add(h);
        }
        for (int round = 1; ; round++) {
            Map<Integer, Integer> points = new HashMap<>();
            for (int h : left) {
                int best = left.stream().mapToInt(g -> values[h][now.has[g]]).max().getAsInt();
                int at = left.stream().filter(g -> values[h][now.has[g]] == best).mapToInt(g -> now.has[g]).min().getAsInt();
                points.put(h, values[h][now.has[h]] == best ? h : keeper(at));
            }
            List<Integer> going = new ArrayList<>();
            for (int h : left) {
                List<Integer> way = new ArrayList<>();
                for (int g = points.get(h); !way.contains(g); g = points.get(g)) {
                    way.add(g);
                }
                if (way.contains(h)) {
                    going.add(h);
                    if (h == holder) {
                        return new int[] {now.has[points.get(h)], round, way.size()}[what];
                    }
                }
            }
            left.removeAll(going);
        }
    }

    int together(int what) {
        int[] best = {-1, -1, 0};
        for (int h = 0; h < holders; h++) {
            for (int g = h + 1; g < holders; g++) {
                int before = has(7);
                int[] kept = now.has.clone();
                now.has[h] = kept[g];
                now.has[g] = kept[h];
                int more = has(7) - before;
                now.has = kept;
                best = more > best[2] ? new int[] {h, g, more} : best;
            }
        }
        return best[0] < 0 || what < 0 || what > 2 ? -1 : best[what];
    }

    int clear(int rings) {
        return rings < 0 || rings > 5 ? -1 : BigInteger.valueOf(100 - fog).pow(rings).multiply(BigInteger.valueOf(1000000))
                .divide(BigInteger.valueOf(100).pow(rings)).intValue();
    }

    int on(int d) {
        if (d < 0 || d >= helds || sisters[d] < 0 || keeper(d) < 0 || keeper(sisters[d]) < 0) {
            return -1;
        }
        int[][] far = new int[holders][holders];
        for (int i = 0; i < holders; i++) {
            for (int j = 0; j < holders; j++) {
                far[i][j] = i == j ? 0 : now.met[i][j] + now.met[j][i] > 0 ? 1 : 1000;
            }
        }
        for (int k = 0; k < holders; k++) {
            for (int i = 0; i < holders; i++) {
                for (int j = 0; j < holders; j++) {
                    far[i][j] = Math.min(far[i][j], far[i][k] + far[k][j]);
                }
            }
        }
        int steps = far[keeper(d)][keeper(sisters[d])];
        return steps >= 1000 ? -1 : steps;
    }

    int note(int[] row) {
        if (row.length == 0 || row.length % 3 != 0 || row.length > 60) {
            return -1;
        }
        List<int[]> told = new ArrayList<>();
        for (int k = 0; k < row.length; k += 3) {
            if (row[k] >= holders || row[k + 1] >= helds || row[k + 2] > 1) {
                return -1;
            }
            told.add(new int[] {row[k], row[k + 1], row[k + 2]});
        }
        notes = told;
        return told.size();
    }

    private List<int[]> ways() {
        List<int[]> all = new ArrayList<>();
        all.add(new int[0]);
        for (int h = 0; h < holders; h++) {
            List<int[]> longer = new ArrayList<>();
            for (int[] way : all) {
                for (int d = 0; d < helds; d++) {
                    int one = d;
                    if (Arrays.stream(way).noneMatch(e -> e == one)) {
                        int[] next = Arrays.copyOf(way, h + 1);
                        next[h] = d;
                        longer.add(next);
                    }
                }
            }
            all = longer;
        }
        all.removeIf(way -> notes.stream().anyMatch(n -> (way[n[0]] == n[1] ? 1 : 0) != n[2]));
        return all;
    }

    int can(int h) {
        if (h < -1 || h >= holders) {
            return -1;
        }
        return h < 0 ? ways().size() : ways().stream().mapToInt(way -> 1 << way[h]).reduce(0, (a, b) -> a | b);
    }

    int next(int what) {
        List<int[]> ways = ways();
        if (ways.isEmpty() || holders == 0 || what < 0 || what > 2) {
            return -1;
        }
        int[] best = {0, 0, Integer.MAX_VALUE};
        for (int h = 0; h < holders; h++) {
            for (int d = 0; d < helds; d++) {
                int one = h;
                int other = d;
                int yes = (int) ways.stream().filter(way -> way[one] == other).count();
                int most = Math.max(yes, ways.size() - yes);
                best = most < best[2] ? new int[] {h, d, most} : best;
            }
        }
        return best[what];
    }

    long ask(String word, Phrase phrase) {
        long[] worth = new long[holders];
        for (int h = 0; h < holders; h++) {
            worth[h] = phrase.worth.applyAsLong(asked(h));
        }
        int first = -1;
        int last = -1;
        for (int h = 0; h < holders; h++) {
            first = first < 0 && worth[h] == 1 ? h : first;
            last = worth[h] == 1 ? h : last;
        }
        switch (word) {
            case "first": return first;
            case "last": return last;
            case "most": return Arrays.stream(worth).max().orElse(0);
            case "least": return Arrays.stream(worth).min().orElse(0);
            default: return Arrays.stream(worth).sum();
        }
    }

    int[] image() {
        List<Integer> all = new ArrayList<>(List.of(now.night >> 8, now.night & 255));
        for (int h = 0; h < holders; h++) {
            all.addAll(List.of(now.has[h], now.wants[h], now.purse[h] >> 8, now.purse[h] & 255));
            for (int times : now.met[h]) {
                all.add(times);
            }
        }
        int check = 17;
        for (int octet : all) {
            check = (3 * check + octet) % 251;
        }
        all.add(check);
        return all.stream().mapToInt(k -> k).toArray();
    }

    /** Only of images that are none but good ones. */
    void resume(int[] octets) {
        now.night = octets[0] * 256 + octets[1];
        int k = 2;
        for (int h = 0; h < holders; h++) {
            now.has[h] = octets[k];
            now.wants[h] = octets[k + 1];
            now.purse[h] = octets[k + 2] * 256 + octets[k + 3];
            for (int g = 0; g < holders; g++) {
                now.met[h][g] = octets[k + 4 + g];
            }
            k += 4 + holders;
        }
        now.kept.clear();
        past.clear();
    }
}
