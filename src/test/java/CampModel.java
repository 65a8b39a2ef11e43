import java.util.ArrayList;
import java.util.Arrays;
import java.util.List;
import java.util.regex.Matcher;
import java.util.regex.Pattern;

/**
 * The document once more, written as slowly and as plainly as it can be read, with the Java library
 * and nothing taken over from NearestTents: lists of objects, days gone one by one, a fresh copy of
 * the camp for everything that is only tried. AgainstModelTest holds the class against it.
 */
final class CampModel {
    static final int LOW = -1000001;
    static final int BEYOND = LOW, FULL = LOW - 1, KIND = LOW - 2, NONE = LOW - 3, STATE = LOW - 4,
            MISSING = LOW - 5, SIZE = LOW - 6;
    static final List<String> NAMES =
            List.of("tent", "elderly", "prophet", "mute", "doubting", "contrary", "farsighted");

    static final class Tent {
        int kind, x, y;
        boolean on;

        Tent(int kind, int x, int y, boolean on) {
            this.kind = kind;
            this.x = x;
            this.y = y;
            this.on = on;
        }

        Tent twin() {
            return new Tent(kind, x, y, on);
        }
    }

    static final class World {
        List<Tent> tents = new ArrayList<>();
        int wall = 0, bridge = 0, day = 0, z = 1;
        boolean counted = true;
        Integer[] spots = new Integer[10];

        World twin() {
            World w = new World();
            for (Tent t : tents) {
                w.tents.add(t.twin());
            }
            w.wall = wall;
            w.bridge = bridge;
            w.day = day;
            w.z = z;
            w.counted = counted;
            w.spots = spots.clone();
            return w;
        }

        Tent at(int x, int y) {
            for (Tent t : tents) {
                if (t.x == x && t.y == y) {
                    return t;
                }
            }
            return null;
        }

        int far(int x, int y, int u, int v) {
            boolean between = wall > 0 && Math.min(x, u) <= wall - 1 && Math.max(x, u) >= wall;
            if (counted && between) {
                int steps = Math.abs(x - u) + Math.abs(y - bridge) + Math.abs(v - bridge);
                return steps * steps;
            }
            return (x - u) * (x - u) + (y - v) * (y - v);
        }

        int far(Tent a, Tent b) {
            return far(a.x, a.y, b.x, b.y);
        }

        Tent nearest(Tent me, List<Tent> some) {
            return some.stream().filter(o -> o != me)
                    .min((a, b) -> Integer.compare(far(me, a), far(me, b))).orElse(null);
        }

        Tent hears(Tent me) {
            switch (me.kind) {
                case 1:
                case 4:
                    return nearest(me, tents.subList(0, tents.indexOf(me)));
                case 6:
                    return tents.stream().filter(o -> o != me)
                            .min((a, b) -> Integer.compare(far(me, b), far(me, a))).orElse(null);
                default:
                    return nearest(me, tents);
            }
        }

        boolean willSay(Tent me) {
            Tent heard = hears(me);
            boolean asTent = heard == null ? me.on : heard.on;
            switch (me.kind) {
                case 2:
                    return true;
                case 3:
                    return me.on;
                case 4:
                    Tent near = nearest(me, tents);
                    return near != null && near.on != asTent ? me.on : asTent;
                case 5:
                case 6:
                    return heard == null ? me.on : !heard.on;
                default:
                    return asTent;
            }
        }

        /** Whom all hear does not change while days go: only who says what does. */
        World after(int n) {
            World w = twin();
            int count = w.tents.size();
            Tent[] heard = new Tent[count];
            Tent[] near = new Tent[count];
            for (int i = 0; i < count; i++) {
                heard[i] = w.hears(w.tents.get(i));
                near[i] = w.nearest(w.tents.get(i), w.tents);
            }
            boolean[] next = new boolean[count];
            for (int d = 0; d < n; d++) {
                for (int i = 0; i < count; i++) {
                    Tent me = w.tents.get(i);
                    if (d == 0) {
                        next[i] = w.willSay(me);
                    } else if (me.kind == 2) {
                        next[i] = true;
                    } else if (me.kind == 3 || heard[i] == null) {
                        next[i] = me.on;
                    } else if (me.kind >= 5) {
                        next[i] = !heard[i].on;
                    } else if (me.kind == 4) {
                        next[i] = near[i].on == heard[i].on ? heard[i].on : me.on;
                    } else {
                        next[i] = heard[i].on;
                    }
                }
                for (int i = 0; i < count; i++) {
                    w.tents.get(i).on = next[i];
                }
            }
            w.day += n;
            return w;
        }

        int saying() {
            int set = 0;
            for (int i = 0; i < tents.size(); i++) {
                set += tents.get(i).on ? 1 << i : 0;
            }
            return set;
        }

        int vote() {
            return (int) tents.stream().filter(t -> t.on).count();
        }

        int sayingNext() {
            int set = 0;
            for (int i = 0; i < tents.size(); i++) {
                set += willSay(tents.get(i)) ? 1 << i : 0;
            }
            return set;
        }

        boolean paired(Tent t) {
            return hears(t) != null && hears(hears(t)) == t;
        }

        int pairs() {
            return (int) tents.stream().filter(this::paired).count() / 2;
        }

        int line(Tent t) {
            Tent at = t;
            for (int steps = 0; steps <= 20; steps++) {
                if (at == null) {
                    return -1;
                }
                if (paired(at)) {
                    return steps;
                }
                at = hears(at);
            }
            return -1;
        }

        int followers(Tent leader) {
            int set = 0;
            for (int i = 0; i < tents.size(); i++) {
                Tent at = tents.get(i);
                if (at == leader) {
                    continue;
                }
                for (int steps = 0; steps < 20 && at != null && at != leader; steps++) {
                    at = hears(at);
                }
                set += at == leader ? 1 << i : 0;
            }
            return set;
        }

        int[] hearing() {
            return tents.stream().mapToInt(t -> tents.indexOf(hears(t))).toArray();
        }

        World moved(int tent, int x, int y) {
            World w = twin();
            w.tents.get(tent).x = x;
            w.tents.get(tent).y = y;
            return w;
        }

        int draw() {
            z = z * 1103515245 + 12345;
            return z >>> 8;
        }

        void stray(Tent t) {
            int yard = draw() % 144;
            Tent there = at(yard % 12, yard / 12);
            if (there == null || there == t) {
                t.x = yard % 12;
                t.y = yard / 12;
            }
        }
    }

    static final class Row {
        int bits;
        int[] numbers;
    }

    World now = new World();
    World kept = null;
    StringBuilder tape = new StringBuilder();
    Row[] sheets = new Row[4];
    int[] findings = new int[7];

    int finding(int f) {
        findings[LOW - f]++;
        return f;
    }

    boolean isTent(int t) {
        return t >= 0 && t < now.tents.size();
    }

    static boolean in(int v, int low, int high) {
        return low <= v && v <= high;
    }

    static boolean isYard(int x, int y) {
        return in(x, 0, 11) && in(y, 0, 11);
    }

    boolean isSet(int bits) {
        return in(bits, 0, (1 << now.tents.size()) - 1);
    }

    int tent(int kind, int x, int y) {
        if (!in(kind, 0, 6) || !isYard(x, y)) return finding(BEYOND);
        if (now.at(x, y) != null) return finding(STATE);
        if (now.tents.size() == 10) return finding(FULL);
        now.tents.add(new Tent(kind, x, y, false));
        return now.tents.size() - 1;
    }

    int of(int tent, int what) {
        if (!isTent(tent) || !in(what, 0, 7)) return finding(BEYOND);
        Tent t = now.tents.get(tent);
        return List.of(t.kind, t.x, t.y, t.on ? 1 : 0, now.tents.indexOf(now.hears(t)),
                now.willSay(t) ? 1 : 0, now.line(t), now.followers(t)).get(what);
    }

    int change(int tent, int what, int v) {
        if (!isTent(tent) || !(what == 0 && in(v, 0, 6) || what == 3 && in(v, 0, 1))) return finding(BEYOND);
        int was = of(tent, what);
        if (what == 0) {
            now.tents.get(tent).kind = v;
        } else {
            now.tents.get(tent).on = v == 1;
        }
        return was;
    }

    int move(int tent, int x, int y) {
        if (!isTent(tent) || !isYard(x, y)) return finding(BEYOND);
        Tent t = now.tents.get(tent);
        if (now.at(x, y) != null && now.at(x, y) != t) return finding(STATE);
        int was = now.far(t.x, t.y, x, y);
        now = now.moved(tent, x, y);
        return was;
    }

    int wall(int what, int v) {
        if (!in(what, 0, 2) || !in(v, 0, what == 2 ? 1 : 11)) return finding(BEYOND);
        int was = what == 0 ? now.wall : what == 1 ? now.bridge : now.counted ? 1 : 0;
        switch (what) {
            case 0 -> now.wall = v;
            case 1 -> now.bridge = v;
            default -> now.counted = v == 1;
        }
        return was;
    }

    int on(int x, int y) {
        if (!isYard(x, y)) return finding(BEYOND);
        return now.at(x, y) == null ? finding(NONE) : now.tents.indexOf(now.at(x, y));
    }

    int far(int one, int other) {
        if (!isTent(one) || !isTent(other)) return finding(BEYOND);
        return now.far(now.tents.get(one), now.tents.get(other));
    }

    int nearest(int tent) {
        if (!isTent(tent)) return finding(BEYOND);
        Tent near = now.nearest(now.tents.get(tent), now.tents);
        return near == null ? finding(NONE) : now.tents.indexOf(near);
    }

    int hearing(int tent) {
        if (!isTent(tent)) return finding(BEYOND);
        int set = 0;
        int[] hearing = now.hearing();
        for (int i = 0; i < hearing.length; i++) {
            set += hearing[i] == tent ? 1 << i : 0;
        }
        return set;
    }

    int days(int n) {
        if (!in(n, 1, 100000)) return finding(BEYOND);
        if (now.day + n > 999999999) return finding(STATE);
        now = now.after(n);
        return now.vote();
    }

    int now(int what) {
        if (!in(what, 0, 6)) return finding(BEYOND);
        int paired = 0, unheard = 0, longest = -1;
        for (int i = 0; i < now.tents.size(); i++) {
            Tent t = now.tents.get(i);
            paired += now.paired(t) ? 1 << i : 0;
            unheard += now.tents.stream().noneMatch(o -> now.hears(o) == t) ? 1 << i : 0;
            longest = Math.max(longest, now.line(t));
        }
        return List.of(now.day, now.saying(), now.vote(), now.pairs(), paired, unheard, longest).get(what);
    }

    int says(int tent, int n) {
        if (!isTent(tent) || !in(n, 0, 999999)) return finding(BEYOND);
        return now.after(n).tents.get(tent).on ? 1 : 0;
    }

    int saying(int n) {
        if (!in(n, 0, 999999)) return finding(BEYOND);
        return now.after(n).saying();
    }

    /** What is said on days 0, 1, .., up to and with the first that was said before. */
    List<Integer> path() {
        List<Integer> path = new ArrayList<>();
        World w = now;
        while (!path.contains(w.saying())) {
            path.add(w.saying());
            w = w.after(1);
        }
        path.add(w.saying());
        return path;
    }

    int settles() {
        List<Integer> path = path();
        return path.indexOf(path.get(path.size() - 1));
    }

    int circle() {
        return path().size() - 1 - settles();
    }

    int mind() {
        List<Integer> path = path();
        int all = (1 << now.tents.size()) - 1;
        for (int from = 0; from < path.size() && all != 0; from++) {
            List<Integer> days = new ArrayList<>(path.subList(from, path.size()));
            days.addAll(path.subList(settles(), path.size()));
            if (days.stream().allMatch(said -> said == 0 || said == all)) return from;
        }
        return finding(NONE);
    }

    boolean won(World w, int n) {
        return w.after(n).vote() > w.tents.size() / 2.0;
    }

    /** FAR, tent, yard of the least move; null if there is none, FAR 0 if none is needed. */
    int[] leastMove(int n) {
        if (won(now, n)) return new int[] {0, 0, 0};
        int[] best = null;
        for (int t = 0; t < now.tents.size(); t++) {
            Tent from = now.tents.get(t);
            for (int yard = 0; yard < 144; yard++) {
                int x = yard % 12, y = yard / 12;
                int far = now.far(from.x, from.y, x, y);
                if (now.at(x, y) == null && (best == null || far < best[0]) && won(now.moved(t, x, y), n)) {
                    best = new int[] {far, t, yard};
                }
            }
        }
        return best;
    }

    int least(int n) {
        if (!in(n, 1, 60)) return finding(BEYOND);
        int[] move = leastMove(n);
        return move == null ? finding(NONE) : move[0];
    }

    int whom(int n) {
        if (!in(n, 1, 60)) return finding(BEYOND);
        int[] move = leastMove(n);
        return move == null || move[0] == 0 ? finding(NONE) : 1000 * move[1] + move[2];
    }

    /** Yard and followers. */
    int[] bestPlace() {
        int[] best = {-1, -1};
        for (int yard = 0; yard < 144; yard++) {
            if (now.at(yard % 12, yard / 12) == null) {
                World w = now.twin();
                Tent stranger = new Tent(0, yard % 12, yard / 12, false);
                w.tents.add(stranger);
                int followers = Integer.bitCount(w.followers(stranger));
                if (followers > best[1]) {
                    best = new int[] {yard, followers};
                }
            }
        }
        return best;
    }

    int place() {
        return now.tents.size() == 10 ? finding(STATE) : bestPlace()[0];
    }

    int leads() {
        return now.tents.size() == 10 ? finding(STATE) : bestPlace()[1];
    }

    int changed(int tent, int x, int y) {
        if (!isTent(tent) || !isYard(x, y)) return finding(BEYOND);
        if (now.at(x, y) != null && now.at(x, y) != now.tents.get(tent)) return finding(STATE);
        int[] before = now.hearing(), then = now.moved(tent, x, y).hearing();
        int set = 0;
        for (int i = 0; i < before.length; i++) {
            set += i != tent && before[i] != then[i] ? 1 << i : 0;
        }
        return set;
    }

    int still(int tent) {
        if (!isTent(tent)) return finding(BEYOND);
        int still = 0;
        for (int yard = 0; yard < 144; yard++) {
            if (now.at(yard % 12, yard / 12) == null
                    && Arrays.equals(now.hearing(), now.moved(tent, yard % 12, yard / 12).hearing())) {
                still++;
            }
        }
        return still;
    }

    int key() {
        int best = -1, fewest = 99;
        for (int t = 0; t < now.tents.size(); t++) {
            World w = now.twin();
            w.tents.remove(t);
            int lined = (int) w.tents.stream().filter(o -> w.line(o) >= 0).count();
            if (lined < fewest) {
                best = t;
                fewest = lined;
            }
        }
        return best < 0 ? finding(NONE) : best;
    }

    int leader() {
        int best = -1, most = -1;
        for (int t = 0; t < now.tents.size(); t++) {
            int followers = Integer.bitCount(now.followers(now.tents.get(t)));
            if (followers > most) {
                best = t;
                most = followers;
            }
        }
        return best < 0 ? finding(NONE) : best;
    }

    int walled() {
        World with = now.twin(), without = now.twin();
        with.counted = true;
        without.counted = false;
        int set = 0;
        for (int i = 0; i < now.tents.size(); i++) {
            set += with.hearing()[i] != without.hearing()[i] ? 1 << i : 0;
        }
        return set;
    }

    int law(int n) {
        if (!in(n, 1, 60)) return finding(BEYOND);
        int best = -1, most = -1;
        for (int kind = 0; kind <= 6; kind++) {
            World w = now.twin();
            for (Tent t : w.tents) {
                t.kind = kind;
            }
            if (w.after(n).vote() > most) {
                best = kind;
                most = w.after(n).vote();
            }
        }
        return best;
    }

    int heard(int n) {
        if (!in(n, 1, 60)) return finding(BEYOND);
        int best = -1, most = -1;
        for (int t = 0; t < now.tents.size(); t++) {
            World w = now.twin();
            w.tents.get(t).on = !w.tents.get(t).on;
            World a = now.after(n), b = w.after(n);
            int others = 0;
            for (int i = 0; i < now.tents.size(); i++) {
                others += i != t && a.tents.get(i).on != b.tents.get(i).on ? 1 : 0;
            }
            if (others > most) {
                best = t;
                most = others;
            }
        }
        return best < 0 ? finding(NONE) : best;
    }

    int follows(int tent, int before) {
        if (!isTent(tent) || !isSet(before)) return finding(BEYOND);
        int set = 0;
        for (int i = 0; i < now.tents.size(); i++) {
            set += i != tent && (before >> i & 1) == 1 == now.tents.get(tent).on ? 1 << i : 0;
        }
        return set;
    }

    List<Integer> ways(int said, int d) {
        List<Integer> ways = new ArrayList<>();
        if (d == 0) {
            if (now.sayingNext() == said) ways.add(0);
            return ways;
        }
        for (int t = 0; t < now.tents.size(); t++) {
            Tent from = now.tents.get(t);
            for (int y = from.y - d; y <= from.y + d; y++) {
                for (int x = from.x - d; x <= from.x + d; x++) {
                    if (isYard(x, y) && now.at(x, y) == null && now.moved(t, x, y).sayingNext() == said) {
                        ways.add(1000 * t + 12 * y + x);
                    }
                }
            }
        }
        return ways;
    }

    int moves(int said, int d) {
        if (!isSet(said) || !in(d, 0, 2)) return finding(BEYOND);
        return ways(said, d).size();
    }

    int moved(int said, int d) {
        if (!isSet(said) || !in(d, 0, 2)) return finding(BEYOND);
        return ways(said, d).isEmpty() ? finding(NONE) : ways(said, d).get(0);
    }

    int strew(int n) {
        if (!in(n, 1, 12)) return finding(BEYOND);
        if (now.tents.isEmpty()) return finding(STATE);
        for (int i = 0; i < n; i++) {
            now.stray(now.tents.get(now.draw() % now.tents.size()));
        }
        return now.pairs();
    }

    int camps(int n) {
        if (!in(n, 1, 12)) return finding(BEYOND);
        if (now.tents.isEmpty()) return finding(STATE);
        World before = now.twin();
        int pairs = 0;
        for (int i = 0; i < n; i++) {
            now.tents.forEach(now::stray);
            pairs += now.pairs();
        }
        before.z = now.z;
        now = before;
        return pairs;
    }

    int seed(int v) {
        int was = now.z;
        now.z = v;
        return was;
    }

    int feed(int bytes, int n) {
        if (!in(n, 1, 4)) return finding(BEYOND);
        if (tape.length() + n > 120) return finding(FULL);
        for (int i = n - 1; i >= 0; i--) {
            tape.append((char) (bytes >>> 8 * i & 255));
        }
        return tape.length();
    }

    int wipe() {
        int had = tape.length();
        tape.setLength(0);
        return had;
    }

    static final Pattern TOKEN = Pattern.compile(" *(?:([a-z]+)|([0-9]+)|(;)|([^ ]))?", Pattern.DOTALL);

    /** The tokens in turn, each with its place; the last one is "" behind the last byte. */
    static List<String> tokens(String text, List<Integer> places) {
        List<String> tokens = new ArrayList<>();
        Matcher m = TOKEN.matcher(text);
        int at = 0;
        while (true) {
            m.region(at, text.length());
            m.lookingAt();
            int g = 1;
            while (g <= 4 && m.group(g) == null) {
                g++;
            }
            tokens.add(g > 4 ? "" : m.group(g));
            places.add(g > 4 ? text.length() : m.start(g));
            if (g > 4) {
                return tokens;
            }
            at = m.end();
        }
    }

    static boolean isSide(String token) {
        return token.matches("0*([0-9]|10|11)");
    }

    /** Tries the items; a fault is the index of its token. Items are counted in items[0]. */
    static int fault(World w, List<String> t, int[] items) {
        int i = 0;
        while (true) {
            String word = t.get(i);
            if (NAMES.contains(word)) {
                if (w.tents.size() == 10) return i;
                if (!t.get(++i).equals("at")) return i;
                if (!isSide(t.get(++i))) return i;
                int x = Integer.parseInt(t.get(i));
                if (!isSide(t.get(++i))) return i;
                int y = Integer.parseInt(t.get(i));
                if (w.at(x, y) != null) return i;
                boolean on = t.get(i + 1).equals("on");
                i += on ? 2 : 1;
                w.tents.add(new Tent(NAMES.indexOf(word), x, y, on));
            } else if (word.equals("wall")) {
                if (!isSide(t.get(++i))) return i;
                w.wall = Integer.parseInt(t.get(i));
                if (t.get(++i).equals("bridge")) {
                    if (!isSide(t.get(++i))) return i;
                    w.bridge = Integer.parseInt(t.get(i));
                    i++;
                }
            } else if (word.equals("counted") || word.equals("free")) {
                w.counted = word.equals("counted");
                i++;
            } else {
                return i;
            }
            items[0]++;
            if (t.get(i).isEmpty()) return -1;
            if (!t.get(i).equals(";")) return i;
            i++;
        }
    }

    int text() {
        List<Integer> places = new ArrayList<>();
        List<String> tokens = tokens(tape.toString(), places);
        tape.setLength(0);
        World w = now.twin();
        int[] items = {0};
        int fault = fault(w, tokens, items);
        if (fault >= 0) return -1 - places.get(fault);
        now = w;
        return items[0];
    }

    int hold(int spot, int tent) {
        if (!in(spot, 0, 9) || tent != -1 && !isTent(tent)) return finding(BEYOND);
        now.spots[spot] = tent == -1 ? null : (Integer) tent;
        return 1;
    }

    int as(int spot, int kind) {
        if (!in(spot, 0, 9) || !in(kind, 0, 6)) return finding(BEYOND);
        if (now.spots[spot] == null) return finding(MISSING);
        int tent = now.spots[spot];
        List<List<Integer>> lineage = List.of(List.of(0), List.of(1, 0), List.of(2, 0), List.of(3, 2, 0),
                List.of(4, 1, 0), List.of(5, 0), List.of(6, 5, 0));
        return lineage.get(now.tents.get(tent).kind).contains(kind) ? tent : finding(KIND);
    }

    int sheet(int s, int bits, int n) {
        if (!in(s, 0, 3) || !List.of(0, 8, 16, 32).contains(bits)) return finding(BEYOND);
        if (n < 0) return finding(SIZE);
        if (n > 40) return finding(BEYOND);
        sheets[s] = null;
        if (bits == 0) return 0;
        sheets[s] = new Row();
        sheets[s].bits = bits;
        sheets[s].numbers = new int[n];
        return n;
    }

    int write(int s, int i, int v) {
        if (!in(s, 0, 3)) return finding(BEYOND);
        if (sheets[s] == null) return finding(MISSING);
        if (!in(i, 0, sheets[s].numbers.length - 1)) return finding(BEYOND);
        int away = 32 - sheets[s].bits;
        sheets[s].numbers[i] = v << away >> away;
        return 1;
    }

    int copy(int s, int from, int t, int to, int n) {
        if (!in(s, 0, 3) || !in(t, 0, 3)) return finding(BEYOND);
        if (sheets[s] == null || sheets[t] == null) return finding(MISSING);
        if (sheets[s].bits != sheets[t].bits) return finding(KIND);
        if (from < 0 || to < 0 || n < 0 || (long) from + n > sheets[s].numbers.length
                || (long) to + n > sheets[t].numbers.length) return finding(BEYOND);
        int[] were = Arrays.copyOfRange(sheets[s].numbers, from, from + n);
        for (int i = 0; i < n; i++) {
            sheets[t].numbers[to + i] = were[i];
        }
        return n;
    }

    int load(int s) {
        if (!in(s, 0, 3)) return finding(BEYOND);
        if (sheets[s] == null) return finding(MISSING);
        int came = 0;
        for (int v : sheets[s].numbers) {
            if (!in(v, 0, 1) || !isTent(came)) break;
            now.tents.get(came++).on = v == 1;
        }
        return came;
    }

    int judge(int s) {
        if (!in(s, 0, 3)) return finding(BEYOND);
        if (sheets[s] == null) return finding(MISSING);
        for (int i = 0; i < sheets[s].numbers.length; i++) {
            if (sheets[s].numbers[i] != now.after(i + 1).vote()) return 1 + i;
        }
        return 0;
    }

    int image() {
        kept = now.twin();
        return 1;
    }

    int undo() {
        if (kept == null) return finding(NONE);
        now = kept.twin();
        return now.day;
    }

    int tear() {
        int was = kept == null ? 0 : 1;
        kept = null;
        return was;
    }

    int count(int what) {
        if (!in(what, 0, 7)) return finding(BEYOND);
        int holding = 0;
        for (Integer spot : now.spots) {
            holding += spot == null ? 0 : 1;
        }
        return List.of(now.day, now.tents.size(), now.vote(), now.wall, now.bridge, tape.length(), now.z, holding)
                .get(what);
    }

    int status(int which) {
        if (which == -1) return Arrays.stream(findings).sum();
        return in(which, 0, 6) ? findings[which] : finding(BEYOND);
    }
}
