import java.math.BigInteger;
import java.util.ArrayDeque;
import java.util.ArrayList;
import java.util.Deque;
import java.util.HashMap;
import java.util.List;
import java.util.Map;
import java.util.TreeMap;
import java.util.regex.Matcher;
import java.util.regex.Pattern;

/** The document read a second time, word for word and without regard to speed, to hold the class against. */
final class Model {
    private static final int BAD = -1, NO = -2, FULL = -3, NONE = -4;
    private static final Pattern ITEM =
        Pattern.compile("r(\\d\\d?),(\\d\\d?),(\\d\\d?),(\\d\\d?);|w(\\d\\d?),(\\d\\d?);|m(\\d\\d?);|c(\\d\\d?),(\\d\\d?);");

    /** Turns and kinds of all ropes, hours gone by, what they cost. */
    private record Dusk(List<Integer> turns, List<Integer> kinds, int hours, int cost) { }

    private record Rope(int yard, int pace) { }

    private record Want(int yard, int light) { }

    private String text = "";
    private List<Rope> ropes = new ArrayList<>();
    private List<Want> wants = new ArrayList<>();
    private List<Integer> men = new ArrayList<>();
    private int down;
    private int up;
    private Dusk now;
    private final Deque<Dusk> past = new ArrayDeque<>();
    private final Deque<Dusk> kept = new ArrayDeque<>();
    private final List<int[]> seen = new ArrayList<>();

    Model() {
        text = "r2,3,0,0;r9,2,2,4;r15,4,1,0;r21,5,3,6;w4,1;w10,2;w20,0;m0;m8;m12;m23;m16;c1,2;";
        lay();
        text = "";
    }

    int write(int letter) {
        if (letter < 32 || letter > 126) {
            return BAD;
        }
        if (text.length() == 200) {
            return FULL;
        }
        text += (char) letter;
        return text.length();
    }

    int wipe() {
        int was = text.length();
        text = "";
        return was;
    }

    private static boolean in(int low, int x, int high) {
        return low <= x && x <= high;
    }

    int fault() {
        List<Integer> over = new ArrayList<>();
        Matcher m = ITEM.matcher(text);
        int place = 0;
        int wanted = 0;
        int living = 0;
        while (place < text.length()) {
            m.region(place, text.length());
            if (!m.lookingAt()) {
                return place;
            }
            int[] g = new int[10];
            for (int i = 1; i <= 9; i++) {
                g[i] = m.group(i) == null ? -1 : Integer.parseInt(m.group(i));
            }
            boolean fine = switch (text.charAt(place)) {
                case 'r' -> in(0, g[1], 23) && in(1, g[2], 5) && in(0, g[3], 3) && in(0, g[4], 40) && !over.contains(g[1])
                    && over.size() < 5 && over.add(g[1]);
                case 'w' -> in(0, g[5], 23) && in(0, g[6], 3) && ++wanted <= 8;
                case 'm' -> in(0, g[7], 23) && ++living <= 6;
                default -> in(0, g[8], 9) && in(0, g[9], 9);
            };
            if (!fine) {
                return place;
            }
            place = m.end();
        }
        return NONE;
    }

    int lay() {
        if (fault() != NONE || !text.contains("r")) {
            return NO;
        }
        ropes = new ArrayList<>();
        wants = new ArrayList<>();
        men = new ArrayList<>();
        down = 1;
        up = 2;
        List<Integer> turns = new ArrayList<>();
        List<Integer> kinds = new ArrayList<>();
        for (String item : text.split(";")) {
            String[] parts = item.substring(1).split(",");
            int[] n = new int[parts.length];
            for (int i = 0; i < n.length; i++) {
                n[i] = Integer.parseInt(parts[i]);
            }
            switch (item.charAt(0)) {
                case 'r' -> {
                    ropes.add(new Rope(n[0], n[1]));
                    kinds.add(n[2]);
                    turns.add(n[3]);
                }
                case 'w' -> wants.add(new Want(n[0], n[1]));
                case 'm' -> men.add(n[0]);
                default -> {
                    down = n[0];
                    up = n[1];
                }
            }
        }
        now = new Dusk(turns, kinds, 0, 0);
        past.clear();
        kept.clear();
        seen.clear();
        return ropes.size();
    }

    int rope(int k, int what) {
        if (!isRope(k) || !in(0, what, 3)) {
            return BAD;
        }
        return List.of(ropes.get(k).yard, ropes.get(k).pace, now.kinds.get(k), now.turns.get(k)).get(what);
    }

    private boolean isRope(int k) {
        return in(0, k, ropes.size() - 1);
    }

    private int skyOf(List<Integer> turns, int y) {
        TreeMap<Integer, Integer> byYard = new TreeMap<>();
        for (int k = 0; k < ropes.size(); k++) {
            byYard.put(ropes.get(k).yard, turns.get(k));
        }
        Map.Entry<Integer, Integer> a = byYard.floorEntry(y);
        Map.Entry<Integer, Integer> b = byYard.ceilingEntry(y);
        if (a == null) {
            return b.getValue();
        }
        if (b == null || b.getKey() == y) {
            return b == null ? a.getValue() : b.getValue();
        }
        return (a.getValue() * (b.getKey() - y) + b.getValue() * (y - a.getKey())) / (b.getKey() - a.getKey());
    }

    private static int lightOf(int low) {
        return low < 10 ? 0 : low < 20 ? 1 : low < 30 ? 2 : 3;
    }

    private int lightAt(List<Integer> turns, int y) {
        return lightOf(skyOf(turns, y));
    }

    int sky(int y) {
        return in(0, y, 23) ? skyOf(now.turns, y) : BAD;
    }

    int light(int y) {
        return in(0, y, 23) ? lightAt(now.turns, y) : BAD;
    }

    private static int wind(int t, int p, int kind, int hour, boolean isDown, boolean isUp) {
        int sign = isDown ? 1 : isUp ? -1 : 0;
        switch (kind) {
            case 0:
                t += sign * p;
                break;
            case 1:
                t += sign * (p + 1);
                break;
            case 2:
                t += sign * p;
                break;
            default:
                t += hour % 2 == 0 ? sign * p : 0;
        }
        if (t < 0) {
            t = 0;
        }
        if (t > 40) {
            t = 40;
        }
        if (kind == 2 && t > 0 && t % 3 == 0) {
            t -= 1;
        }
        return t;
    }

    private Dusk hourOn(Dusk d, int isDown, int isUp) {
        List<Integer> turns = new ArrayList<>();
        int cost = d.cost;
        for (int k = 0; k < ropes.size(); k++) {
            boolean goesDown = (isDown & (1 << k)) != 0;
            boolean goesUp = (isUp & (1 << k)) != 0;
            turns.add(wind(d.turns.get(k), ropes.get(k).pace, d.kinds.get(k), d.hours, goesDown, goesUp));
            cost += goesDown ? down : 0;
            cost += goesUp ? up : 0;
        }
        return new Dusk(turns, d.kinds, d.hours + 1, cost);
    }

    private void change(Dusk next) {
        past.push(now);
        if (past.size() > 8) {
            past.removeLast();
        }
        now = next;
    }

    int hour(int isDown, int isUp) {
        int last = (1 << ropes.size()) - 1;
        if (!in(0, isDown, last) || !in(0, isUp, last) || (isDown & isUp) != 0) {
            return BAD;
        }
        if (now.hours == 99) {
            return NO;
        }
        int before = now.cost;
        change(hourOn(now, isDown, isUp));
        return now.cost - before;
    }

    private Dusk greased(Dusk d, int k) {
        List<Integer> kinds = new ArrayList<>(d.kinds);
        kinds.set(k, 1);
        return new Dusk(d.turns, kinds, d.hours, d.cost);
    }

    int grease(int k) {
        if (!isRope(k)) {
            return BAD;
        }
        int was = now.kinds.get(k);
        change(greased(now, k));
        return was;
    }

    int undo() {
        if (past.isEmpty()) {
            return NO;
        }
        now = past.pop();
        return past.size();
    }

    private int metOf(List<Integer> turns) {
        int bits = 0;
        for (int i = 0; i < wants.size(); i++) {
            bits += lightAt(turns, wants.get(i).yard) == wants.get(i).light ? 1 << i : 0;
        }
        return bits;
    }

    int met() {
        return metOf(now.turns);
    }

    int noon() {
        for (int y = 0; y < 24; y++) {
            if (light(y) == 0) {
                return y;
            }
        }
        return NONE;
    }

    private Dusk allDown(Dusk d, int hours) {
        for (int i = 0; i < hours; i++) {
            d = hourOn(d, (1 << ropes.size()) - 1, 0);
        }
        return d;
    }

    int soon(int y, int u) {
        if (!in(0, y, 23) || !in(0, u, 3)) {
            return BAD;
        }
        for (int hours = 0; hours <= 24; hours++) {
            if (lightAt(allDown(now, hours).turns, y) >= u) {
                return hours;
            }
        }
        return NONE;
    }

    int plan(int k) {
        if (k != -1 && !isRope(k)) {
            return BAD;
        }
        int[] best = null;
        int fewest = 1000;
        int ways = (int) Math.round(Math.pow(5, ropes.size()));
        for (int way = 0; way < ways; way++) {
            int[] hours = new int[ropes.size()];
            int rest = way;
            int sum = 0;
            for (int i = ropes.size() - 1; i >= 0; i--) {
                hours[i] = rest % 5;
                sum += hours[i];
                rest /= 5;
            }
            if (sum < fewest && planMeets(hours)) {
                fewest = sum;
                best = hours;
            }
        }
        if (best == null) {
            return NONE;
        }
        return k == -1 ? fewest : best[k];
    }

    private boolean planMeets(int[] hours) {
        Dusk d = now;
        for (int i = 0; i < 4; i++) {
            int set = 0;
            for (int k = 0; k < hours.length; k++) {
                set |= i < hours[k] ? 1 << k : 0;
            }
            d = hourOn(d, set, 0);
        }
        return metOf(d.turns) == (1 << wants.size()) - 1;
    }

    private int nightsOf(List<Integer> turns) {
        int n = 0;
        for (int y = 0; y < 24; y++) {
            n += lightAt(turns, y) == 3 ? 1 : 0;
        }
        return n;
    }

    int best(int n, int what) {
        if (!in(1, n, 12) || !in(0, what, 1)) {
            return BAD;
        }
        List<Integer> nights = new ArrayList<>();
        for (int k = 0; k < ropes.size(); k++) {
            nights.add(nightsOf(allDown(greased(now, k), n).turns));
        }
        int most = nights.stream().mapToInt(Integer::intValue).max().getAsInt();
        return what == 0 ? nights.indexOf(most) : most;
    }

    int posts(int k) {
        if (k != -1 && !isRope(k)) {
            return BAD;
        }
        List<List<Integer>> ways = new ArrayList<>();
        waysToPost(new ArrayList<>(), ways);
        List<Integer> best = null;
        for (List<Integer> way : ways) {
            if (best == null || far(way) < far(best)) {
                best = way;
            }
        }
        if (best == null) {
            return NONE;
        }
        return k == -1 ? far(best) : best.get(k);
    }

    private void waysToPost(List<Integer> begun, List<List<Integer>> ways) {
        if (begun.size() == ropes.size()) {
            ways.add(new ArrayList<>(begun));
            return;
        }
        for (int man = 0; man < men.size(); man++) {
            if (!begun.contains(man)) {
                begun.add(man);
                waysToPost(begun, ways);
                begun.remove(begun.size() - 1);
            }
        }
    }

    private int far(List<Integer> way) {
        int sum = 0;
        for (int i = 0; i < way.size(); i++) {
            sum += Math.abs(men.get(way.get(i)) - ropes.get(i).yard);
        }
        return sum;
    }

    int brown(int what) {
        if (!in(0, what, 2)) {
            return BAD;
        }
        StringBuilder row = new StringBuilder();
        for (int y = 0; y < 24; y++) {
            row.append(light(y) == 2 ? 'b' : '.');
        }
        int all = row.toString().replace(".", "").length();
        int longest = 0;
        while (longest < 24 && row.indexOf("b".repeat(longest + 1)) >= 0) {
            longest++;
        }
        int first = longest == 0 ? NONE : row.indexOf("b".repeat(longest));
        return new int[] {all, longest, first}[what];
    }

    int seen(int y, int v) {
        if (!in(0, y, 23) || !in(0, v, 40)) {
            return BAD;
        }
        if (seen.size() == 8) {
            return FULL;
        }
        seen.add(new int[] {y, v});
        return seen.size();
    }

    int forget() {
        int was = seen.size();
        seen.clear();
        return was;
    }

    private List<Integer> had(int k, int more) {
        List<Integer> turns = new ArrayList<>(now.turns);
        turns.set(k, Math.min(40, turns.get(k) + more));
        return turns;
    }

    private List<Integer> candidates() {
        List<Integer> all = new ArrayList<>();
        for (int k = 0; k < ropes.size(); k++) {
            for (int more = 0; more <= 9; more++) {
                List<Integer> turns = had(k, more);
                if (seen.stream().allMatch(s -> skyOf(turns, s[0]) == s[1])) {
                    all.add(10 * k + more);
                }
            }
        }
        return all;
    }

    int slipped(int what) {
        if (!in(0, what, 1)) {
            return BAD;
        }
        List<Integer> all = candidates();
        if (what == 0) {
            return all.size();
        }
        return all.isEmpty() ? NONE : all.get(0);
    }

    int look(int what) {
        if (!in(0, what, 1)) {
            return BAD;
        }
        List<Integer> all = candidates();
        if (all.isEmpty()) {
            return NONE;
        }
        List<Integer> worst = new ArrayList<>();
        for (int y = 0; y < 24; y++) {
            Map<Integer, Integer> alike = new HashMap<>();
            for (int code : all) {
                alike.merge(skyOf(had(code / 10, code % 10), y), 1, Integer::sum);
            }
            worst.add(alike.values().stream().mapToInt(Integer::intValue).max().getAsInt());
        }
        int fewest = worst.stream().mapToInt(Integer::intValue).min().getAsInt();
        return what == 0 ? worst.indexOf(fewest) : fewest;
    }

    int paces(int k, int n, int v) {
        if (!isRope(k) || !in(1, n, 8) || !in(0, v, 40)) {
            return BAD;
        }
        int bits = 0;
        for (int p = 1; p <= 5; p++) {
            int t = now.turns.get(k);
            for (int hour = now.hours; hour < now.hours + n; hour++) {
                t = wind(t, p, now.kinds.get(k), hour, true, false);
            }
            bits += t == v ? 1 << p : 0;
        }
        return bits;
    }

    private static BigInteger likely(int turns, int n, int x, int u) {
        if (n == 0) {
            return lightOf(turns) == u ? BigInteger.ONE : BigInteger.ZERO;
        }
        BigInteger slips = likely(Math.max(0, turns - 1), n - 1, x, u).multiply(BigInteger.valueOf(x));
        return slips.add(likely(turns, n - 1, x, u).multiply(BigInteger.valueOf(10 - x)));
    }

    int slips(int k, int n, int x, int u, int part) {
        if (!isRope(k) || !in(0, n, 6) || !in(0, x, 10) || !in(0, u, 3) || !in(0, part, 1)) {
            return BAD;
        }
        BigInteger above = likely(now.turns.get(k), n, x, u);
        BigInteger below = BigInteger.TEN.pow(n);
        BigInteger common = above.gcd(below);
        return (part == 0 ? above : below).divide(common).intValueExact();
    }

    int spent(int what) {
        return what == 0 ? now.cost : what == 1 ? now.hours : BAD;
    }

    int evening(int z, int n, int what) {
        if (!in(0, z, 9999) || !in(1, n, 24) || !in(0, what, 1)) {
            return BAD;
        }
        Dusk d = now;
        BigInteger sets = BigInteger.TWO.pow(ropes.size());
        for (int i = 0; i < n; i++) {
            BigInteger q = BigInteger.valueOf(7919).multiply(BigInteger.valueOf(z))
                .add(BigInteger.valueOf(6151).multiply(BigInteger.valueOf(d.hours))).add(BigInteger.ONE);
            BigInteger draw = q.multiply(q).mod(BigInteger.valueOf(65521));
            int isDown = draw.mod(sets).intValueExact();
            int isUp = draw.divide(BigInteger.valueOf(32)).mod(sets).intValueExact();
            d = hourOn(d, isDown, isUp - (isUp & isDown));
        }
        return what == 0 ? Integer.bitCount(metOf(d.turns)) : nightsOf(d.turns);
    }

    int keep() {
        if (kept.size() == 2) {
            return FULL;
        }
        kept.push(now);
        return kept.size();
    }

    int back() {
        if (kept.isEmpty()) {
            return NO;
        }
        now = kept.pop();
        past.clear();
        return kept.size();
    }

    int count(int what) {
        if (!in(0, what, 6)) {
            return BAD;
        }
        return new int[] {ropes.size(), wants.size(), men.size(), seen.size(), past.size(), kept.size(), text.length()}[what];
    }
}
