import java.lang.reflect.Method;
import java.lang.reflect.Modifier;
import java.util.ArrayList;
import java.util.Arrays;
import java.util.Comparator;
import java.util.List;
import java.util.Random;

/** Holds runs of drawn calls on NearestTents against the same calls on CampModel. */
public final class AgainstModelTest {
    static final int RUNS = 3000;
    static final int[] WILD = {Integer.MIN_VALUE, -1000001, -257, -2, -1, 12, 13, 99, 144, 1024, 65536, Integer.MAX_VALUE};
    static final List<String> WORDS = new ArrayList<>(List.of("at", "on", "wall", "bridge", "counted", "free", ";", "0", "5",
            "11", "12", "007", "0000000011", "4294967297", "999", "1000", "tents", "ton", "A", "\u00e9", "\t", "\0", "-1", "{", "`", ":", "/"));

    static {
        WORDS.addAll(CampModel.NAMES);
    }

    final Random random;
    final NearestTents real = new NearestTents();
    final CampModel model = new CampModel();
    final StringBuilder told = new StringBuilder();

    AgainstModelTest(long seed) {
        random = new Random(seed);
    }

    int below(int n) {
        return random.nextInt(n);
    }

    /** Mostly what stands to reason, at times what doesn't. */
    int from(int low, int high) {
        int dice = below(40);
        if (dice == 0) return WILD[below(WILD.length)];
        if (dice == 1) return low - 1;
        if (dice == 2) return high + 1;
        return low + below(high - low + 1);
    }

    int tent() {
        return from(0, Math.max(0, model.now.tents.size() - 1));
    }

    int set() {
        int dice = below(4);
        if (dice == 0) return model.now.saying();
        if (dice == 1) return model.now.sayingNext();
        return from(0, (1 << model.now.tents.size()) - 1);
    }

    int days(int most) {
        return below(12) == 0 ? from(0, most) : from(0, 30);
    }

    int[] arguments(String name) {
        switch (name) {
            case "tent": return new int[] {from(0, 6), from(0, 11), from(0, 11)};
            case "of": return new int[] {tent(), from(0, 7)};
            case "change": {
                int what = below(10) == 0 ? from(0, 7) : 3 * below(2);
                return new int[] {tent(), what, from(0, what == 3 ? 1 : 6)};
            }
            case "move": case "changed": return new int[] {tent(), from(0, 11), from(0, 11)};
            case "wall": {
                int what = from(0, 2);
                return new int[] {what, from(0, what == 2 ? 1 : 11)};
            }
            case "on": {
                int tent = below(model.now.tents.size() + 1);
                if (tent < model.now.tents.size() && below(2) == 0) {
                    return new int[] {model.now.tents.get(tent).x, model.now.tents.get(tent).y};
                }
                return new int[] {from(0, 11), from(0, 11)};
            }
            case "far": return new int[] {tent(), tent()};
            case "nearest": case "hearing": case "still": return new int[] {tent()};
            case "days": return new int[] {days(100000)};
            case "now": return new int[] {from(0, 6)};
            case "says": return new int[] {tent(), days(999999)};
            case "saying": return new int[] {days(999999)};
            case "least": case "whom": case "law": case "heard": return new int[] {from(1, 60)};
            case "follows": return new int[] {tent(), set()};
            case "moves": case "moved": return new int[] {set(), from(0, 2)};
            case "strew": case "camps": return new int[] {from(1, 12)};
            case "seed": return new int[] {random.nextInt()};
            case "feed": return new int[] {random.nextInt(), from(1, 4)};
            case "hold": return new int[] {from(0, 9), from(-1, model.now.tents.size() - 1)};
            case "as": return new int[] {from(0, 9), from(0, 6)};
            case "sheet": return new int[] {from(0, 3), List.of(0, 8, 16, 32, 8, 16, 32, 7).get(below(8)), from(0, 40)};
            case "write": return new int[] {from(0, 3), from(0, below(2) == 0 ? 40 : 4), below(3) == 0 ? random.nextInt() : from(0, 10)};
            case "copy": return new int[] {from(0, 3), from(0, 20), from(0, 3), from(0, 20), from(0, 20)};
            case "load": case "judge": return new int[] {from(0, 3)};
            case "count": return new int[] {from(0, 7)};
            case "status": return new int[] {from(-1, 6)};
            default: return new int[0];
        }
    }

    static List<Method> face() {
        List<Method> face = new ArrayList<>();
        for (Method m : NearestTents.class.getDeclaredMethods()) {
            if (Modifier.isPublic(m.getModifiers())) face.add(m);
        }
        face.sort(Comparator.comparing(Method::getName));
        return face;
    }

    boolean agrees(String name, int... args) throws ReflectiveOperationException {
        Object[] boxed = Arrays.stream(args).boxed().toArray();
        Class<?>[] types = new Class<?>[args.length];
        Arrays.fill(types, int.class);
        String before = told.toString();
        told.append(name).append(Arrays.toString(args)).append(' ');
        Object due = CampModel.class.getDeclaredMethod(name, types).invoke(model, boxed);
        Object got;
        try {
            got = NearestTents.class.getMethod(name, types).invoke(real, boxed);
        } catch (java.lang.reflect.InvocationTargetException e) {
            got = e.getCause();
        }
        if (due.equals(got)) return true;
        System.out.println("behind " + before + "\n  " + name + Arrays.toString(args) + " answered " + got + ", due is " + due);
        return false;
    }

    String drawnText() {
        StringBuilder text = new StringBuilder();
        int items = 1 + below(6);
        for (int i = 0; i < items; i++) {
            if (i > 0) text.append(below(3) == 0 ? " ; " : ";");
            int dice = below(10);
            if (dice < 6) {
                text.append(CampModel.NAMES.get(below(7))).append(below(8) == 0 ? " at" : " at ").append(below(12)).append(' ').append(below(12));
                if (below(2) == 0) text.append(below(2) == 0 ? " on" : "on");
            } else if (dice < 9) {
                text.append("wall ").append(below(12));
                if (below(2) == 0) text.append(" bridge ").append(below(12));
            } else {
                text.append(below(2) == 0 ? "counted" : "free");
            }
        }
        int spoils = below(3) == 0 ? 1 + below(2) : 0;
        for (int i = 0; i < spoils; i++) {
            int at = below(text.length() + 1);
            switch (below(4)) {
                case 0 -> text.insert(at, WORDS.get(below(WORDS.size())));
                case 1 -> text.insert(at, " " + WORDS.get(below(WORDS.size())) + " ");
                case 2 -> text.setLength(at);
                default -> text.insert(at, ' ');
            }
        }
        return text.length() > 120 ? text.substring(0, 120) : text.toString();
    }

    boolean feedsText() throws ReflectiveOperationException {
        String text = drawnText();
        for (int at = 0; at < text.length();) {
            int n = Math.min(1 + below(4), text.length() - at);
            int bytes = random.nextInt();
            for (int i = 0; i < n; i++) {
                bytes = bytes << 8 | text.charAt(at + i);
            }
            if (!agrees("feed", bytes, n)) return false;
            at += n;
        }
        return below(20) == 0 || agrees("text");
    }

    /** A camp whose yards are close to one another, so that many are as FAR. */
    boolean pitches() throws ReflectiveOperationException {
        int tents = below(12);
        int width = 2 + below(11);
        int kinds = below(3);
        for (int i = 0; i < tents; i++) {
            int kind = kinds == 0 ? below(7) : kinds == 1 ? 0 : List.of(0, 0, 0, 1, 2, 4, 5, 6).get(below(8));
            if (!agrees("tent", kind, below(Math.min(12, width)), below(Math.min(12, width)))) return false;
            if (below(2) == 0 && !agrees("change", tent(), 3, below(2))) return false;
        }
        return below(2) == 0 || agrees("wall", 0, below(12)) && agrees("wall", 1, below(12));
    }

    boolean holds(List<Method> face) throws ReflectiveOperationException {
        if (below(6) != 0 && !pitches()) return false;
        for (int i = 0; i < 60; i++) {
            if (below(30) == 0 && !feedsText()) return false;
            if (below(60) == 0 && !pitches()) return false;
            String name = face.get(below(face.size())).getName();
            if (!agrees(name, arguments(name))) return false;
        }
        return looksTheSame();
    }

    boolean looksTheSame() throws ReflectiveOperationException {
        for (int what = 0; what < 8; what++) {
            if (!agrees("count", what) || !agrees("now", what)) return false;
            for (int t = 0; t < model.now.tents.size(); t++) {
                if (!agrees("of", t, what)) return false;
            }
        }
        for (int spot = 0; spot < 10; spot++) {
            if (!agrees("as", spot, 0)) return false;
        }
        for (int which = -1; which < 7; which++) {
            if (!agrees("status", which)) return false;
        }
        return true;
    }

    public static void main(String[] args) throws ReflectiveOperationException {
        int runs = args.length > 0 ? Integer.parseInt(args[0]) : RUNS;
        long first = args.length > 1 ? Long.parseLong(args[1]) : 1;
        List<Method> face = face();
        int wrong = 0;
        for (int i = 0; i < runs && wrong < 5; i++) {
            if (!new AgainstModelTest(first + i).holds(face)) {
                System.out.println("  (seed " + (first + i) + ")");
                wrong++;
            }
        }
        System.out.println(runs + " drawn runs, " + wrong + " not as the model");
        if (wrong != 0) System.exit(1);
    }
}
