import java.io.IOException;
import java.lang.reflect.InvocationTargetException;
import java.lang.reflect.Method;
import java.lang.reflect.Modifier;
import java.nio.file.Files;
import java.nio.file.Path;
import java.util.ArrayList;
import java.util.Arrays;
import java.util.HashMap;
import java.util.LinkedHashMap;
import java.util.List;
import java.util.Map;

/**
 * What the tests of single sentences share: the sentences of the document, each of which wants a test
 * of its own, and runs of calls that can be made once more on a new object, so that two twins of which
 * one alone got a call show what that call changed.
 */
class Sentences {
    static final int BEYOND = -1000001, FULL = -1000002, KIND = -1000003, NONE = -1000004, STATE = -1000005,
            MISSING = -1000006, SIZE = -1000007;
    static final int TENT = 0, ELDERLY = 1, PROPHET = 2, MUTE = 3, DOUBTING = 4, CONTRARY = 5, FARSIGHTED = 6;
    static final int MIN = Integer.MIN_VALUE, MAX = Integer.MAX_VALUE;
    static final int MOST_CALLS = 512;

    /** Each sentence of the document, and how many answers were asked for it. */
    static final Map<String, Integer> BOOK = new LinkedHashMap<>();
    static final Map<String, Method> FACE = new HashMap<>();
    static String sentence = "?";
    static int asked;
    static int wrong;

    static {
        for (Method m : NearestTents.class.getDeclaredMethods()) {
            if (Modifier.isPublic(m.getModifiers())) {
                FACE.put(m.getName(), m);
            }
        }
    }

    static void openBook(Path document) throws IOException {
        String text = Files.readString(document);
        int at = text.indexOf("An object is used");
        enter("What it is", text.substring(at, text.indexOf("\n", at)));
        enter("Terms", text.substring(text.indexOf("## Terms") + 8, text.indexOf("Ahead of the calls")));
        for (String section : text.substring(0, text.indexOf("## Not promised")).split("(?m)^## Promise ")) {
            if (section.matches("(?s)[0-9]+:.*")) {
                enter("Promise " + section.substring(0, section.indexOf(':')), section.substring(section.indexOf("`:") + 2));
            }
        }
    }

    /** A sentence ends with one point (two are "and so on"), which may stand inside of brackets. */
    static void enter(String section, String text) {
        String plain = text.replaceAll("```(text)?", " ").replaceAll("(?m)^[0-9]\\. ", "").replaceAll("\\s+", " ").trim();
        for (String s : plain.split("(?<!\\.)\\.(?= |$)|(?<=\\.\\)) ")) {
            BOOK.put(section + ": " + s.trim(), 0);
        }
    }

    /** What follows is the test of the sentence of a section that is, or else begins with, some words. */
    static void sentence(String section, String words) {
        String begin = section + ": " + words;
        List<String> found = new ArrayList<>();
        for (String s : BOOK.keySet()) {
            if (s.equals(begin)) {
                sentence = s;
                return;
            }
            if (s.startsWith(begin)) {
                found.add(s);
            }
        }
        sentence = begin;
        if (found.size() == 1) {
            sentence = found.get(0);
        } else {
            fail("the document has " + found.size() + " such sentences");
        }
    }

    static void promise(int number, String words) {
        sentence("Promise " + number, words);
    }

    static void fail(String what) {
        wrong++;
        System.out.println("[" + sentence + "] " + what);
    }

    static void check(boolean holds, String what) {
        asked++;
        BOOK.computeIfPresent(sentence, (s, n) -> n + 1);
        if (!holds) {
            fail(what);
        }
    }

    static boolean isFinding(int answer) {
        return answer <= BEYOND && answer >= SIZE;
    }

    /** Calls on a new object, in turn. */
    static final class Run {
        private final NearestTents object = new NearestTents();
        private final List<String> names = new ArrayList<>();
        private final List<int[]> arguments = new ArrayList<>();
        private boolean isLonger;

        /** For what can't be come to by as many calls as an object is promised for. */
        Run longer() {
            isLonger = true;
            return this;
        }

        int ask(String name, int... args) {
            names.add(name);
            arguments.add(args);
            if (names.size() == MOST_CALLS + 1 && !isLonger) {
                fail("the test makes more than " + MOST_CALLS + " calls");
            }
            try {
                return (int) FACE.get(name).invoke(object, Arrays.stream(args).boxed().toArray());
            } catch (InvocationTargetException e) {
                fail(told(name, args) + " threw " + e.getCause());
            } catch (IllegalAccessException | IllegalArgumentException e) {
                fail(told(name, args) + " can't be called: " + e);
            }
            return 0;
        }

        static String told(String name, int... args) {
            return name + Arrays.toString(args).replace('[', '(').replace(']', ')');
        }

        Run twin() {
            Run twin = new Run();
            twin.isLonger = isLonger;
            for (int i = 0; i < names.size(); i++) {
                twin.ask(names.get(i), arguments.get(i));
            }
            return twin;
        }

        /** A call that only prepares. */
        Run with(String name, int... args) {
            int answer = ask(name, args);
            if (isFinding(answer)) {
                fail("preparing, " + told(name, args) + " answered " + answer);
            }
            return this;
        }

        Run feeds(String text) {
            for (int i = 0; i < text.length(); i += 4) {
                String part = text.substring(i, Math.min(i + 4, text.length()));
                int bytes = 0;
                for (char c : part.toCharArray()) {
                    bytes = bytes << 8 | c;
                }
                with("feed", bytes, part.length());
            }
            return this;
        }

        Run due(int want, String name, int... args) {
            int answer = ask(name, args);
            check(answer == want, told(name, args) + " answered " + answer + ", due is " + want);
            return this;
        }

        /** Answers that, and changes nothing at all, nor status(). */
        Run quiet(int want, String name, int... args) {
            Run before = twin();
            due(want, name, args);
            Run after = twin();
            int[] found = before.found(), foundThen = after.found();
            check(Arrays.equals(found, foundThen), told(name, args) + " made status() of " + Arrays.toString(found) + " " + Arrays.toString(foundThen));
            same(before, after, told(name, args));
            return this;
        }

        /** Answers a finding, which status() tells from then on, and changes nothing else. */
        Run refused(int finding, String name, int... args) {
            Run before = twin();
            due(finding, name, args);
            Run after = twin();
            int[] found = before.found(), foundThen = after.found();
            found[0]++;
            found[1 + BEYOND - finding]++;
            check(Arrays.equals(found, foundThen), told(name, args) + ": status() is " + Arrays.toString(foundThen) + ", due is " + Arrays.toString(found));
            same(before, after, told(name, args));
            return this;
        }

        /** As refused, for each of some values of one argument, all else being as told. */
        Run refusesAll(int finding, int place, int[] values, String name, int... args) {
            for (int v : values) {
                int[] given = args.clone();
                given[place] = v;
                twin().refused(finding, name, given);
            }
            return this;
        }

        /** An argument is right from low to high, the others being as told; just below and above it is BEYOND, as are the extremes. */
        Run bounds(int place, int low, int high, String name, int... args) {
            for (int v : new int[] {low, high}) {
                int[] given = args.clone();
                given[place] = v;
                int answer = twin().ask(name, given);
                check(answer != BEYOND, told(name, given) + " answered " + answer);
            }
            return refusesAll(BEYOND, place, new int[] {low - 1, high + 1, MIN, MAX}, name, args);
        }

        /** status() of all and of each finding. */
        int[] found() {
            int[] found = new int[8];
            for (int which = -1; which < 7; which++) {
                found[1 + which] = ask("status", which);
            }
            return found;
        }

        /** Nothing but status() tells this run from another one, which may have been made by other calls. */
        Run likens(Run other, String why) {
            same(other.twin(), twin(), why);
            return this;
        }

        private static void same(Run one, Run other, String call) {
            List<String> all = one.everything(), allThen = other.everything();
            for (int i = 0; i < all.size() && i < allThen.size(); i++) {
                if (!all.get(i).equals(allThen.get(i))) {
                    check(false, call + " changed " + all.get(i) + " into " + allThen.get(i));
                    return;
                }
            }
            check(all.size() == allThen.size(), call + " changed how much there is to tell");
        }

        /**
         * All that can be told of an object but status(), told by calls that use it up: the camp, THE
         * TAPE by what text() makes of it, SHEETS by what copy() and load() tell of their numbers, and
         * at last the image.
         */
        List<String> everything() {
            List<String> told = new ArrayList<>();
            tellCamp(told);
            tell(told, "text");
            tellCamp(told);
            tellSheets(told);
            tellSpots(told);
            tell(told, "undo");
            tellCamp(told);
            tellSpots(told);
            return told;
        }

        private int tell(List<String> told, String name, int... args) {
            int answer = ask(name, args);
            told.add(told(name, args) + " = " + answer);
            return answer;
        }

        private void tellCamp(List<String> told) {
            for (int what = 0; what < 8; what++) {
                tell(told, "count", what);
            }
            int tents = ask("count", 1);
            for (int t = 0; t < tents; t++) {
                for (int what = 0; what < 3; what++) {
                    tell(told, "of", t, what);
                }
            }
            tell(told, "now", 1);
            ask("wall", 2, tell(told, "wall", 2, 1));
        }

        private void tellSpots(List<String> told) {
            for (int spot = 0; spot < 10; spot++) {
                tell(told, "as", spot, TENT);
            }
        }

        /** How many numbers a sheet has is told up to five, the first five of them as 0, 1 or another one, and then its bits. */
        private void tellSheets(List<String> told) {
            for (int x = 0; x < 12 && ask("count", 1) < 5; x++) {
                ask("tent", MUTE, x, 10);
            }
            for (int s = 0; s < 4; s++) {
                for (int i = 0; i < 5; i++) {
                    if (isFinding(tell(told, "copy", s, i, s, 0, 1))) {
                        break;
                    }
                    tell(told, "load", s);
                    tell(told, "now", 1);
                }
                for (int v = 257; v <= 65537; v += 65280) {
                    tell(told, "write", s, 0, v);
                    tell(told, "load", s);
                }
            }
            for (int s = 1; s < 4; s++) {
                tell(told, "copy", 0, 0, s, 0, 0);
            }
            for (int bits = 8; bits <= 32; bits *= 2) {
                ask("sheet", 0, bits, 0);
                for (int s = 1; s < 4; s++) {
                    tell(told, "copy", 0, 0, s, 0, 0);
                }
            }
        }
    }

    static Run run() {
        return new Run();
    }

    /** Tents by kind, x and y in turn. */
    static Run camp(int... kindXY) {
        Run c = run();
        for (int i = 0; i < kindXY.length; i += 3) {
            c.with("tent", kindXY[i], kindXY[i + 1], kindXY[i + 2]);
        }
        return c;
    }

    /** 0 and 1 are a pair, 2 hears 1, 3 hears 2. */
    static Run row() {
        return camp(TENT, 0, 0, TENT, 1, 0, TENT, 3, 0, TENT, 6, 0);
    }

    /** As row(), and 0 says 1: 1, 2, 5, 10, 5, 10, .. is said then. */
    static Run rowOn() {
        return row().with("change", 0, 3, 1);
    }

    /** Ten tents in a row: 0 hears 1, each other one the one before it. */
    static Run ten() {
        Run c = run();
        for (int i = 0; i < 10; i++) {
            c.with("tent", TENT, i, 11);
        }
        return c;
    }

    /** Sheets, of which one has no numbers and one is missing, and a text on the tape. */
    static Run papers(Run c, String text) {
        return c.with("sheet", 0, 8, 3).with("write", 0, 1, 1).with("write", 0, 2, 5)
                .with("sheet", 1, 16, 4).with("write", 1, 3, 1).with("write", 1, 0, 1).with("sheet", 2, 32, 0).feeds(text);
    }

    /** Something of all: four tents, a wall, spots, papers, an image of another camp. */
    static Run rich() {
        return papers(camp(TENT, 2, 3, ELDERLY, 4, 3, MUTE, 8, 9)
                .with("change", 2, 3, 1).with("hold", 0, 2).with("hold", 9, 0).with("wall", 0, 5).with("wall", 1, 2)
                .with("seed", 12345).with("days", 3).with("image")
                .with("tent", CONTRARY, 11, 0).with("move", 1, 5, 4).with("change", 0, 0, PROPHET).with("wall", 2, 0)
                .with("wall", 0, 6).with("wall", 1, 7).with("seed", -9).with("hold", 5, 1).with("hold", 0, -1).with("days", 4),
                "mute at 9 9 on;wall 7 bridge 3;counted");
    }

    /** Whatever tents there are, with all else as in rich(); the image is of other walls and another day. */
    static Run furnished(Run c) {
        return papers(c.with("wall", 0, 5).with("wall", 1, 2).with("seed", 12345).with("days", 3).with("image")
                .with("wall", 2, 0).with("wall", 0, 6).with("wall", 1, 7).with("seed", -9).with("days", 4),
                "wall 7 bridge 3;counted");
    }

    /** No tents, but all else. */
    static Run bare() {
        return furnished(run());
    }

    /** As many tents as there may be, and all else. */
    static Run crowded() {
        return furnished(ten().with("change", 3, 3, 1).with("hold", 9, 9).with("hold", 0, 0));
    }
}
