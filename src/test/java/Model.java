import java.math.BigInteger;
import java.util.ArrayList;
import java.util.HashSet;
import java.util.List;
import java.util.Set;
import java.util.TreeSet;

/** The document once more, written word by word and without regard to speed, for ModelTests to compare with. */
final class Model {
    private record Thing(int batch, int month, int miles, int land) {
    }

    private record Claim(int thing, int part, int month, int told, int cost, int judged) {
        boolean let() {
            return judged == 0;
        }

        boolean letBy(int by) {
            return let() && told <= by;
        }

        int delay() {
            return told - month;
        }
    }

    private final List<Thing> things = new ArrayList<>();
    private final List<Claim> claims = new ArrayList<>();
    private final int[] months = {24, 24, 24, 24}, miles = {60000, 60000, 60000, 60000};
    private final int[] above = {-1, -1, -1, -1, -1, -1, -1, -1, -1, -1};
    private final int[] makers = above.clone(), shares = new int[10];
    private int g = 1;

    private static boolean out(int number, int most) {
        return number < 0 || number > most;
    }

    private boolean noThing(int thing) {
        return out(thing, things.size() - 1);
    }

    int thing(int batch, int month, int milesAMonth, int land) {
        if (out(batch, 7) || out(month, 119) || out(milesAMonth, 5000) || out(land, 3)) return -2;
        if (things.size() == 60) return -4;
        things.add(new Thing(batch, month, milesAMonth, land));
        return things.size() - 1;
    }

    int promise(int land, int promisedMonths, int promisedMiles) {
        if (out(land, 3) || out(promisedMonths, 120) || out(promisedMiles, 600000)) return -2;
        months[land] = promisedMonths;
        miles[land] = promisedMiles;
        return 1;
    }

    int again(int now) {
        if (out(now, 12)) return -2;
        int was = g;
        g = now;
        return was;
    }

    private boolean isPromised(Thing t, int m) {
        if (m < t.month) return false;
        int difference = m - t.month;
        return difference < months[t.land] && difference * t.miles < miles[t.land];
    }

    int promised(int thing, int month) {
        if (noThing(thing) || out(month, 300)) return -2;
        return isPromised(things.get(thing), month) ? 1 : 0;
    }

    int last(int thing) {
        if (noThing(thing)) return -2;
        for (int m = 400; m >= 0; m--) if (isPromised(things.get(thing), m)) return m;
        return -1;
    }

    int claim(int thing, int part, int month, int told, int cost) {
        if (noThing(thing) || out(part, 9) || out(month, 300) || out(told, 300) || told < month || out(cost, 10000)) return -2;
        if (claims.size() == 100) return -4;
        boolean twice = false, again = false;
        for (Claim c : claims) {
            if (!c.let() || c.thing != thing || c.part != part) continue;
            if (c.month == month) twice = true;
            for (int ahead = 1; ahead <= g; ahead++) if (c.month == month - ahead) again = true;
        }
        Thing t = things.get(thing);
        int judged = month < t.month ? 1 : twice ? 2 : !isPromised(t, month) ? 3 : again ? 4 : 0;
        claims.add(new Claim(thing, part, month, told, cost, judged));
        return judged;
    }

    int about(int claim, int what) {
        if (claim < 0 || out(what, 6)) return -2;
        if (claim >= claims.size()) return -1;
        Claim c = claims.get(claim);
        return new int[] {c.thing, c.part, c.month, c.told, c.cost, c.judged, c.delay()}[what];
    }

    int table(int s, int a, int by) {
        if (out(s, 119) || out(a, 300) || out(by, 300)) return -2;
        int n = 0;
        for (Claim c : claims) {
            int sold = things.get(c.thing).month;
            if (c.letBy(by) && sold == s && c.month - sold == a) n++;
        }
        return n;
    }

    int exposed(int a, int by) {
        if (out(a, 300) || out(by, 300)) return -2;
        int n = 0;
        for (Thing t : things) if (t.month + a <= by && isPromised(t, t.month + a)) n++;
        return n;
    }

    private static long lowest(BigInteger up, BigInteger down, int what) {
        BigInteger common = up.gcd(down);
        return (what == 0 ? up : down).divide(common).longValueExact();
    }

    int rate(int a, int by, int what) {
        if (out(a, 300) || out(by, 300) || out(what, 1)) return -2;
        if (exposed(a, by) == 0) return -3;
        int n = 0;
        for (int s = 0; s < 120; s++) n += table(s, a, by);
        return (int) lowest(BigInteger.valueOf(n), BigInteger.valueOf(exposed(a, by)), what);
    }

    int delays(int t, int d) {
        if (out(t, 300) || out(d, 11)) return -2;
        int n = 0;
        for (Claim c : claims) if (c.letBy(t) && c.month <= t - 11 && c.delay() == d) n++;
        return n;
    }

    int undone(int f, int t) {
        if (out(t, 300) || out(f, t)) return -2;
        int c = 0, all = 0, sum = 0;
        for (Claim one : claims) if (one.letBy(t) && one.month == f) c++;
        for (int d = 0; d < 12; d++) all += delays(t, d);
        if (t - f >= 11) return c;
        for (int d = 0; d <= t - f; d++) sum += delays(t, d);
        return sum == 0 ? -1 : c * all / sum;
    }

    private static BigInteger choose(int n, int k) {
        if (k < 0 || k > n) return BigInteger.ZERO;
        BigInteger ways = BigInteger.ONE;
        for (int i = 1; i <= k; i++) ways = ways.multiply(BigInteger.valueOf(n - k + i)).divide(BigInteger.valueOf(i));
        return ways;
    }

    private int sizeOf(int batch) {
        int n = 0;
        for (Thing t : things) if (t.batch == batch) n++;
        return n;
    }

    private BigInteger[] chanceOf(int batch, int part, int by) {
        Set<Integer> hit = new HashSet<>(), hitOfBatch = new HashSet<>();
        for (Claim c : claims) {
            if (!c.letBy(by) || c.part != part) continue;
            hit.add(c.thing);
            if (things.get(c.thing).batch == batch) hitOfBatch.add(c.thing);
        }
        int all = things.size(), some = sizeOf(batch);
        BigInteger odd = BigInteger.ZERO;
        for (int j = hitOfBatch.size(); j <= some; j++) {
            odd = odd.add(choose(hit.size(), j).multiply(choose(all - hit.size(), some - j)));
        }
        return new BigInteger[] {odd, choose(all, some)};
    }

    long chance(int batch, int part, int by, int what) {
        if (out(batch, 7) || out(part, 9) || out(by, 300) || out(what, 1)) return -2;
        if (sizeOf(batch) == 0) return -3;
        BigInteger[] chance = chanceOf(batch, part, by);
        return lowest(chance[0], chance[1], what);
    }

    int oddest(int part, int by) {
        if (out(part, 9) || out(by, 300)) return -2;
        int oddest = -1;
        BigInteger[] least = null;
        for (int batch = 0; batch < 8; batch++) {
            if (sizeOf(batch) == 0) continue;
            BigInteger[] chance = chanceOf(batch, part, by);
            if (least != null && chance[0].multiply(least[1]).compareTo(least[0].multiply(chance[1])) >= 0) continue;
            least = chance;
            oddest = batch;
        }
        return oddest;
    }

    private Set<Integer> rowUp(int part) {
        Set<Integer> row = new TreeSet<>();
        for (int p = part; p != -1; p = above[p]) row.add(p);
        return row;
    }

    int under(int part, int newAbove) {
        if (out(part, 9) || newAbove != -1 && out(newAbove, 9)) return -2;
        if (newAbove != -1 && rowUp(newAbove).contains(part)) return -3;
        above[part] = newAbove;
        return 1;
    }

    int maker(int part, int maker, int share) {
        if (out(part, 9) || maker != -1 && out(maker, 5) || out(share, 100)) return -2;
        makers[part] = maker;
        shares[part] = share;
        return 1;
    }

    private int paidFrom(int part) {
        return part == -1 || makers[part] != -1 ? part : paidFrom(above[part]);
    }

    int payer(int part) {
        if (out(part, 9)) return -2;
        return paidFrom(part) == -1 ? -1 : makers[paidFrom(part)];
    }

    int pays(int maker) {
        if (out(maker, 5)) return -2;
        int sum = 0;
        for (Claim c : claims) {
            if (c.let() && payer(c.part) == maker) sum += c.cost * shares[paidFrom(c.part)] / 100;
        }
        return sum;
    }

    int left() {
        return count(8) - pays(0) - pays(1) - pays(2) - pays(3) - pays(4) - pays(5);
    }

    private List<Integer> calledBack(int part, int batches, int from, int to) {
        List<Integer> back = new ArrayList<>();
        for (int i = 0; i < things.size(); i++) {
            Thing t = things.get(i);
            boolean failed = false;
            for (Claim c : claims) if (c.let() && c.thing == i && rowUp(c.part).contains(part)) failed = true;
            if (!failed && (batches & 1 << t.batch) != 0 && t.month >= from && t.month <= to) back.add(i);
        }
        return back;
    }

    int called(int part, int batches, int from, int to) {
        if (out(part, 9) || batches < 1 || batches > 255 || out(to, 119) || out(from, to)) return -2;
        return calledBack(part, batches, from, to).size();
    }

    int calledAt(int part, int batches, int from, int to, int i) {
        if (called(part, batches, from, to) == -2 || i < 0) return -2;
        List<Integer> back = calledBack(part, batches, from, to);
        return i < back.size() ? back.get(i) : -1;
    }

    int count(int what) {
        if (out(what, 8)) return -2;
        int[] counts = new int[9];
        Set<Integer> hit = new HashSet<>();
        for (Claim c : claims) {
            counts[2 + c.judged]++;
            if (c.let()) counts[8] += c.cost;
            if (c.let()) hit.add(c.thing);
        }
        counts[0] = things.size();
        counts[1] = claims.size();
        counts[7] = hit.size();
        return counts[what];
    }

    long digest() {
        List<Integer> all = new ArrayList<>();
        for (int what = 0; what <= 8; what++) all.add(count(what));
        for (int i = 0; i < things.size(); i++) {
            Thing t = things.get(i);
            all.addAll(List.of(t.batch, t.month, t.miles, t.land, last(i)));
        }
        for (int i = 0; i < claims.size(); i++) for (int what = 0; what <= 6; what++) all.add(about(i, what));
        for (int p = 0; p < 10; p++) all.addAll(List.of(above[p], makers[p], shares[p]));
        long h = 199;
        for (int v : all) h = 31 * h + v;
        return h;
    }
}
