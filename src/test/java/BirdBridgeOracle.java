import java.util.ArrayDeque;
import java.util.ArrayList;
import java.util.Arrays;
import java.util.Deque;
import java.util.List;
import java.util.Random;
import java.util.regex.Matcher;
import java.util.regex.Pattern;

/** Runs of chance calls: each answer is held against a second program, written for plainness alone. */
public final class BirdBridgeOracle {
    private static final int BAD = -1, NO = -2, FULL = -3, NONE = -4;
    private static final int CALLS = 512;

    /** A night that never changes: each change makes another one. */
    private record State(List<Integer> bridge, List<Integer> tired, int minute, int year, int place, boolean broken) {
        State withBridge(List<Integer> other) {
            return new State(List.copyOf(other), tired, minute, year, place, broken);
        }

        State rested() {
            return new State(bridge, List.of(0, 0, 0, 0, 0, 0, 0, 0), 0, year, -1, false);
        }

        State fromLeftBank() {
            return new State(bridge, tired, minute, year, -1, false);
        }

        State withYear(int other) {
            return new State(bridge, tired, minute, other, place, broken);
        }
    }

    private interface Winds {
        int in(int minute);
    }

    private static final class Model {
        private static final Pattern ITEM = Pattern.compile(
            "b(\\d{1,2}),(\\d{1,2}),(\\d{1,2}),(\\d{1,2});|r(\\d{1,2});|w(\\d{1,2});|l(\\d{1,2}),(\\d{1,2});");

        String text = "";
        List<int[]> birds = new ArrayList<>();
        List<Integer> winds = new ArrayList<>();
        int width, heavy, growth;
        State now = new State(List.of(), List.of(), 0, 0, -1, false).rested();
        Deque<State> past = new ArrayDeque<>();
        List<State> kept = new ArrayList<>();
        List<int[]> seen = new ArrayList<>();

        Model() {
            text = "b30,2,0,5;b20,1,1,0;b18,2,2,9;b40,1,3,3;b25,2,4,7;r5;w2;w6;w0;l12,1;";
            lay();
            text = "";
        }

        /** Reads THE TEXT: the FAULT or NONE; lays it, if asked and there is none. */
        int read(boolean laying) {
            List<int[]> newBirds = new ArrayList<>();
            List<Integer> newWinds = new ArrayList<>();
            int newWidth = 5, newHeavy = 12, newGrowth = 1;
            Matcher m = ITEM.matcher(text);
            int at = 0;
            while (at < text.length()) {
                m.region(at, text.length());
                if (!m.lookingAt()) {
                    return at;
                }
                if (m.group(1) != null) {
                    int[] b = {Integer.parseInt(m.group(1)), Integer.parseInt(m.group(2)),
                        Integer.parseInt(m.group(3)), Integer.parseInt(m.group(4))};
                    newBirds.add(b);
                    if (b[0] == 0 || b[0] > 60 || b[1] == 0 || b[1] > 3 || b[2] > 4 || b[3] > 40 || newBirds.size() > 8) {
                        return at;
                    }
                } else if (m.group(5) != null) {
                    newWidth = Integer.parseInt(m.group(5));
                    if (newWidth == 0 || newWidth > 9) {
                        return at;
                    }
                } else if (m.group(6) != null) {
                    newWinds.add(Integer.parseInt(m.group(6)));
                    if (newWinds.get(newWinds.size() - 1) > 20 || newWinds.size() > 8) {
                        return at;
                    }
                } else {
                    newHeavy = Integer.parseInt(m.group(7));
                    newGrowth = Integer.parseInt(m.group(8));
                    if (newHeavy == 0 || newHeavy > 40 || newGrowth > 9) {
                        return at;
                    }
                }
                at = m.end();
            }
            if (laying && !newBirds.isEmpty()) {
                birds = newBirds;
                winds = newWinds;
                width = newWidth;
                heavy = newHeavy;
                growth = newGrowth;
            }
            return laying && newBirds.isEmpty() ? 0 : NONE;
        }

        int lay() {
            if (read(true) != NONE) {
                return NO;
            }
            now = new State(List.of(), List.of(), 0, 0, -1, false).rested();
            past.clear();
            kept.clear();
            seen.clear();
            return birds.size();
        }

        int windIn(int minute) {
            return winds.isEmpty() ? 0 : winds.get(minute % winds.size());
        }

        int weight(State s) {
            return heavy + growth * s.year();
        }

        /** For each place that a bridge spans, overhang and all, the position of who spans it. */
        List<Integer> spanned(List<Integer> bridge) {
            List<Integer> places = new ArrayList<>();
            for (int k = 0; k < bridge.size(); k++) {
                for (int i = 0; i < birds.get(bridge.get(k))[1]; i++) {
                    places.add(k);
                }
            }
            return places;
        }

        boolean whole(List<Integer> bridge) {
            return spanned(bridge).size() >= width;
        }

        int part(State s, int k, int place, int load) {
            if (place < 0 || place >= width) {
                return 0;
            }
            int apart = Math.abs(spanned(s.bridge()).get(place) - k);
            return apart > 2 ? 0 : load >> apart;
        }

        int power(State s, int k) {
            int b = s.bridge().get(k);
            int left = birds.get(b)[0] - s.tired().get(b);
            boolean atEnd = k == 0 || k == s.bridge().size() - 1;
            boolean beside = false;
            for (int j = 0; j < s.bridge().size(); j++) {
                beside |= Math.abs(j - k) == 1 && birds.get(s.bridge().get(j))[2] == 4;
            }
            int kind = birds.get(b)[2];
            return kind == 1 && !atEnd ? left / 2 : kind == 4 && beside ? left + 5 : left;
        }

        /** A minute with what each bears; breaking told as such. */
        State minute(State s, int[] bears, int place, boolean canBreak) {
            List<Integer> tired = new ArrayList<>(s.tired());
            for (int k = 0; k < s.bridge().size(); k++) {
                if (canBreak && bears[k] > power(s, k)) {
                    return new State(s.bridge(), s.tired(), s.minute() + 1, s.year(), place, true);
                }
                int b = s.bridge().get(k);
                tired.set(b, tired.get(b) + bears[k] / 8 * (birds.get(b)[2] == 2 ? 2 : 1));
            }
            return new State(s.bridge(), List.copyOf(tired), s.minute() + 1, s.year(), place, false);
        }

        State at(State s, int place, Winds wind, boolean canBreak) {
            int[] bears = new int[s.bridge().size()];
            for (int k = 0; k < bears.length; k++) {
                bears[k] = part(s, k, place, weight(s) + wind.in(s.minute()));
            }
            return minute(s, bears, place, canBreak);
        }

        /** STEP by STEP until she is over or it is broken. */
        State toTheEnd(State s, Winds wind) {
            while (!s.broken() && s.place() < width) {
                s = at(s, s.place() + 1, wind, true);
            }
            return s;
        }

        boolean mayJoin(List<Integer> bridge, int b) {
            if (bridge.contains(b) || whole(bridge)) {
                return false;
            }
            if (bridge.isEmpty()) {
                return birds.get(b)[2] == 1 || birds.stream().noneMatch(one -> one[2] == 1);
            }
            return birds.get(b)[2] != 3 || birds.get(bridge.get(bridge.size() - 1))[2] != 3;
        }

        boolean fixed() {
            return now.broken() || now.place() >= 0 && now.place() < width;
        }

        void go(State next) {
            past.addLast(now);
            if (past.size() > 8) {
                past.removeFirst();
            }
            now = next;
        }

        int join(int b) {
            if (b < 0 || b >= birds.size()) {
                return BAD;
            }
            if (fixed() || !mayJoin(now.bridge(), b)) {
                return NO;
            }
            List<Integer> longer = new ArrayList<>(now.bridge());
            longer.add(b);
            go(now.withBridge(longer));
            return longer.size();
        }

        int leave() {
            if (fixed() || now.bridge().isEmpty()) {
                return NO;
            }
            int last = now.bridge().get(now.bridge().size() - 1);
            go(now.withBridge(now.bridge().subList(0, now.bridge().size() - 1)));
            return last;
        }

        int step() {
            if (!whole(now.bridge()) || now.broken() || now.place() == width) {
                return NO;
            }
            go(at(now, now.place() + 1, this::windIn, true));
            return now.broken() ? NONE : now.place();
        }

        int stand() {
            if (now.place() < 0 || now.place() == width || now.broken()) {
                return NO;
            }
            go(at(now, now.place(), this::windIn, true));
            return now.broken() ? NONE : now.place();
        }

        int year(int n) {
            if (n < 0 || n > 20) {
                return BAD;
            }
            if (fixed()) {
                return NO;
            }
            go(now.withYear(n));
            return weight(now);
        }

        int undo() {
            if (past.isEmpty()) {
                return NO;
            }
            now = past.removeLast();
            return past.size();
        }

        int bird(int b, int what) {
            if (b < 0 || b >= birds.size() || what < 0 || what > 5) {
                return BAD;
            }
            if (what < 4) {
                return birds.get(b)[what];
            }
            int where = now.bridge().indexOf(b);
            return what == 4 ? now.tired().get(b) : where < 0 ? NONE : where;
        }

        int span(int k, int what) {
            if (k < 0 || k >= now.bridge().size() || what < 0 || what > 3) {
                return BAD;
            }
            if (what == 0) {
                return now.bridge().get(k);
            }
            if (what == 1) {
                return spanned(now.bridge()).indexOf(k);
            }
            return what == 2 ? power(now, k) : part(now, k, now.place(), weight(now) + windIn(now.minute()));
        }

        int over(int what) {
            if (what != 0 && what != 1) {
                return BAD;
            }
            if (!whole(now.bridge()) || now.broken()) {
                return NO;
            }
            State end = toTheEnd(now, this::windIn);
            return !end.broken() ? NONE : what == 0 ? end.minute() - 1 : end.place();
        }

        /** The first bridge of so many birds by which she comes over; null without one. */
        List<Integer> ofSize(List<Integer> bridge, int size) {
            if (bridge.size() == size) {
                State s = now.withBridge(bridge).rested();
                return whole(bridge) && !toTheEnd(s, this::windIn).broken() ? bridge : null;
            }
            for (int b = 0; b < birds.size(); b++) {
                if (mayJoin(bridge, b)) {
                    List<Integer> longer = new ArrayList<>(bridge);
                    longer.add(b);
                    List<Integer> found = ofSize(longer, size);
                    if (found != null) {
                        return found;
                    }
                }
            }
            return null;
        }

        int fewest(int k) {
            if (k < -1 || k > 7) {
                return BAD;
            }
            for (int size = 1; size <= birds.size(); size++) {
                List<Integer> found = ofSize(List.of(), size);
                if (found != null) {
                    return k == -1 ? size : k < size ? found.get(k) : NONE;
                }
            }
            return NONE;
        }

        int mend(int k) {
            if (k < 0 || k >= now.bridge().size()) {
                return BAD;
            }
            if (!whole(now.bridge())) {
                return NO;
            }
            for (int b = 0; b < birds.size(); b++) {
                List<Integer> mended = new ArrayList<>(now.bridge());
                if (!mended.contains(b) && birds.get(b)[1] == birds.get(mended.get(k))[1]) {
                    mended.set(k, b);
                    if (!toTheEnd(now.withBridge(mended).fromLeftBank(), this::windIn).broken()) {
                        return b;
                    }
                }
            }
            return NONE;
        }

        int calls(int k) {
            if (k < -1 || k >= now.bridge().size()) {
                return BAD;
            }
            List<Integer> order = new ArrayList<>(now.bridge());
            order.sort((a, b) -> birds.get(a)[3] != birds.get(b)[3] ? birds.get(b)[3] - birds.get(a)[3] : a - b);
            int last = 0;
            for (int i = 0; i < order.size(); i++) {
                last = Math.max(last, i + birds.get(order.get(i))[3]);
            }
            return k == -1 ? last : order.get(k);
        }

        int second(int h) {
            if (h < 1 || h > 40) {
                return BAD;
            }
            if (!whole(now.bridge())) {
                return NO;
            }
            for (int t = 0; t <= 20; t++) {
                State s = now.rested();
                for (int m = 0; m < 40 && !s.broken(); m++) {
                    int her = m;
                    int other = m < t ? -1 : width - 1 - (m - t);
                    int[] bears = new int[s.bridge().size()];
                    for (int k = 0; k < bears.length; k++) {
                        bears[k] = part(s, k, her, weight(s) + windIn(m))
                            + part(s, k, other, her < width ? h : h + windIn(m));
                    }
                    s = minute(s, bears, her, true);
                }
                if (!s.broken()) {
                    return t;
                }
            }
            return NONE;
        }

        int years() {
            if (!whole(now.bridge())) {
                return NO;
            }
            for (int y = 0; y <= 20; y++) {
                if (toTheEnd(now.rested().withYear(y), this::windIn).broken()) {
                    return y;
                }
            }
            return NONE;
        }

        int seen(int k, int h) {
            if (k < 0 || k >= now.bridge().size() || h < 0 || h > 99) {
                return BAD;
            }
            if (seen.size() == 6) {
                return FULL;
            }
            seen.add(new int[] {k, h});
            return seen.size();
        }

        int stood(int m) {
            if (m < 1 || m > 20) {
                return BAD;
            }
            if (!whole(now.bridge())) {
                return NO;
            }
            int bits = 0;
            for (int p = 0; p < width; p++) {
                State s = now.rested();
                for (int i = 0; i < m; i++) {
                    s = at(s, p, this::windIn, false);
                }
                boolean so = true;
                for (int[] one : seen) {
                    so &= one[0] < s.bridge().size() && s.tired().get(s.bridge().get(one[0])) == one[1];
                }
                bits += so ? 1 << p : 0;
            }
            return bits;
        }

        int rain(int x) {
            if (x < 0 || x > 10) {
                return BAD;
            }
            java.math.BigInteger chance = java.math.BigInteger.valueOf(10 - x).pow(width);
            return chance.multiply(java.math.BigInteger.valueOf(1000000))
                .divide(java.math.BigInteger.TEN.pow(width)).intValueExact();
        }

        int century(int z, int n, int what) {
            if (z < 0 || z > 9999 || n < 1 || n > 90 || what < 0 || what > 1) {
                return BAD;
            }
            if (!whole(now.bridge())) {
                return NO;
            }
            List<Integer> broke = new ArrayList<>();
            for (int y = 0; y < n; y++) {
                long base = 7919L * z + 6151L * y + 1;
                Winds drawn = k -> (int) (Math.floorMod((base + 331L * k) * (base + 331L * k), 65521L) / 8 % 21);
                if (toTheEnd(now.rested().withYear(y), drawn).broken()) {
                    broke.add(y);
                }
            }
            return what == 0 ? n - broke.size() : broke.isEmpty() ? NONE : broke.get(0);
        }

        int count(int what) {
            int[] all = {birds.size(), now.bridge().size(), Math.min(width, spanned(now.bridge()).size()), width,
                now.minute(), now.year(), now.broken() ? 1 : 0, seen.size(), past.size(), kept.size(), text.length()};
            return what < 0 || what >= all.length ? BAD : all[what];
        }

        int write(int letter) {
            if (letter < 32 || letter > 126) {
                return BAD;
            }
            if (text.length() == 200) {
                return FULL;
            }
            text += (char) letter;
            return text.length();
        }

        int wipe() {
            int was = text.length();
            text = "";
            return was;
        }

        int forget() {
            int were = seen.size();
            seen.clear();
            return were;
        }

        int keep() {
            if (kept.size() == 2) {
                return FULL;
            }
            kept.add(now);
            return kept.size();
        }

        int back() {
            if (kept.isEmpty()) {
                return NO;
            }
            now = kept.remove(kept.size() - 1);
            past.clear();
            return kept.size();
        }
    }

    private static final String[] NAMES = {"write", "wipe", "fault", "lay", "bird", "wind", "span", "join", "leave", "step",
        "stand", "year", "undo", "over", "fewest", "mend", "calls", "second", "years", "seen", "forget", "stood", "rain",
        "century", "keep", "back", "count"};

    private static int ask(BirdBridge x, String name, int a, int b, int c) {
        switch (name) {
            case "write": return x.write(a);
            case "wipe": return x.wipe();
            case "fault": return x.fault();
            case "lay": return x.lay();
            case "bird": return x.bird(a, b);
            case "wind": return x.wind(a);
            case "span": return x.span(a, b);
            case "join": return x.join(a);
            case "leave": return x.leave();
            case "step": return x.step();
            case "stand": return x.stand();
            case "year": return x.year(a);
            case "undo": return x.undo();
            case "over": return x.over(a);
            case "fewest": return x.fewest(a);
            case "mend": return x.mend(a);
            case "calls": return x.calls(a);
            case "second": return x.second(a);
            case "years": return x.years();
            case "seen": return x.seen(a, b);
            case "forget": return x.forget();
            case "stood": return x.stood(a);
            case "rain": return x.rain(a);
            case "century": return x.century(a, b, c);
            case "keep": return x.keep();
            case "back": return x.back();
            case "count": return x.count(a);
            default: throw new IllegalArgumentException(name);
        }
    }

    private static int ask(Model x, String name, int a, int b, int c) {
        switch (name) {
            case "write": return x.write(a);
            case "wipe": return x.wipe();
            case "fault": return x.read(false);
            case "lay": return x.lay();
            case "bird": return x.bird(a, b);
            case "wind": return a < 0 || a > 99 ? BAD : x.windIn(a);
            case "span": return x.span(a, b);
            case "join": return x.join(a);
            case "leave": return x.leave();
            case "step": return x.step();
            case "stand": return x.stand();
            case "year": return x.year(a);
            case "undo": return x.undo();
            case "over": return x.over(a);
            case "fewest": return x.fewest(a);
            case "mend": return x.mend(a);
            case "calls": return x.calls(a);
            case "second": return x.second(a);
            case "years": return x.years();
            case "seen": return x.seen(a, b);
            case "forget": return x.forget();
            case "stood": return x.stood(a);
            case "rain": return x.rain(a);
            case "century": return x.century(a, b, c);
            case "keep": return x.keep();
            case "back": return x.back();
            case "count": return x.count(a);
            default: throw new IllegalArgumentException(name);
        }
    }

    /** One object and its model, with what has been asked of them. */
    private static final class Run {
        final int number;
        final Random chance;
        final BirdBridge object = new BirdBridge();
        final Model model = new Model();
        final List<String> asked = new ArrayList<>();
        final int[] answers;
        int wrong = 0;

        Run(int number, int[] answers) {
            this.number = number;
            this.chance = new Random(number);
            this.answers = answers;
        }

        int call(String name, int... args) {
            int[] all = Arrays.copyOf(args, 3);
            int want = ask(model, name, all[0], all[1], all[2]);
            int got = ask(object, name, all[0], all[1], all[2]);
            asked.add(name + Arrays.toString(args) + " = " + want);
            answers[Arrays.asList(NAMES).indexOf(name) * 3 + (want >= 0 ? 0 : want == NONE ? 1 : 2)]++;
            if (got != want) {
                wrong++;
                System.out.println("run " + number + ", call " + asked.size() + ": " + name + Arrays.toString(args)
                    + " answered " + got + ", due is " + want + "; behind " + asked);
            }
            return want;
        }

        boolean open() {
            return wrong == 0 && asked.size() < CALLS;
        }

        int of(int least, int most) {
            return least + chance.nextInt(most - least + 1);
        }

        /** Mostly a number from the range, now and then one beside it or far from it. */
        int near(int least, int most) {
            int luck = chance.nextInt(40);
            return luck == 0 ? least - 1 : luck == 1 ? most + 1 : luck == 2 ? chance.nextInt() : of(least, most);
        }

        String someText() {
            StringBuilder text = new StringBuilder();
            boolean crows = chance.nextInt(2) == 0;
            boolean longOnes = chance.nextInt(2) == 0;
            int strongest = of(10, 60);
            int birds = of(1, 8) | of(0, 4);
            for (int i = Math.min(birds, 8); i > 0; i--) {
                int kind = of(0, 4);
                text.append('b').append(of(Math.max(1, strongest - 15), strongest)).append(',').append(longOnes ? of(1, 3) : of(1, 2))
                    .append(',').append(kind == 1 && !crows ? 4 : kind).append(',').append(of(0, chance.nextInt(2) == 0 ? 40 : 4)).append(';');
            }
            if (chance.nextInt(5) > 0) {
                text.append('r').append(of(1, 9)).append(';');
            }
            for (int i = of(0, 8); i > 0; i--) {
                text.append('w').append(of(0, chance.nextInt(3) == 0 ? 20 : 8)).append(';');
            }
            if (chance.nextInt(5) > 0) {
                text.append('l').append(of(1, Math.min(40, strongest))).append(',').append(of(0, chance.nextInt(2) == 0 ? 9 : 1)).append(';');
            }
            if (chance.nextInt(4) == 0) {
                String signs = "brwl0123456789,;x ";
                text.setCharAt(chance.nextInt(text.length()), signs.charAt(chance.nextInt(signs.length())));
            }
            return text.toString();
        }

        void layAnew() {
            call("wipe");
            String text = someText();
            for (int i = 0; i < text.length() && i < 200 && open(); i++) {
                call("write", text.charAt(i));
            }
            call("fault");
            call("lay");
        }

        void build() {
            for (int i = 0; i < 20 && open() && !model.whole(model.now.bridge()) && !model.fixed(); i++) {
                call("join", of(0, model.birds.size() - 1));
            }
        }

        void once() {
            int size = model.now.bridge().size();
            String name = NAMES[chance.nextInt(NAMES.length)];
            switch (name) {
                case "write": call(name, near(32, 126)); break;
                case "wipe": case "lay":
                    if (chance.nextInt(12) == 0) {
                        call(name);
                    }
                    break;
                case "bird": call(name, near(0, model.birds.size() - 1), near(0, 5)); break;
                case "wind": call(name, near(0, 99)); break;
                case "span": call(name, near(0, Math.max(0, size - 1)), near(0, 3)); break;
                case "join": call(name, near(0, model.birds.size() - 1)); break;
                case "year": call(name, near(0, 20)); break;
                case "over": call(name, near(0, 1)); break;
                case "fewest": call(name, near(-1, 7)); break;
                case "mend": call(name, near(0, Math.max(0, size - 1))); break;
                case "calls": call(name, near(-1, Math.max(0, size - 1))); break;
                case "second": call(name, near(1, 40)); break;
                case "seen": seenSome(size); break;
                case "stood": call(name, near(1, chance.nextInt(2) == 0 ? 20 : 3)); break;
                case "rain": call(name, near(0, 10)); break;
                case "century": call(name, near(0, 9999), near(1, 90), near(0, 1)); break;
                case "count": call(name, near(0, 10)); break;
                default: call(name); break;
            }
        }

        /** Mostly what one place would bring about, so that STOOD has an answer. */
        void seenSome(int size) {
            int k = near(0, Math.max(0, size - 1));
            if (k < 0 || k >= size || !model.whole(model.now.bridge()) || chance.nextInt(4) == 0) {
                call("seen", k, near(0, 99));
                return;
            }
            int minutes = of(1, 20);
            int place = of(0, model.width - 1);
            State s = model.now.rested();
            for (int i = 0; i < minutes; i++) {
                s = model.at(s, place, model::windIn, false);
            }
            call("seen", k, s.tired().get(s.bridge().get(k)));
            call("stood", minutes);
        }

        void walk() {
            for (int i = of(1, 14); i > 0 && open(); i--) {
                call(chance.nextInt(4) == 0 ? "stand" : "step");
            }
        }

        void lookAtAll() {
            for (int what = -1; what <= 11; what++) {
                call("count", what);
            }
            for (int b = 0; b < model.birds.size(); b++) {
                call("bird", b, 4);
                call("bird", b, 5);
            }
            for (int k = 0; k < model.now.bridge().size(); k++) {
                for (int what = 0; what < 4; what++) {
                    call("span", k, what);
                }
            }
        }

        void play() {
            if (number % 8 != 0) {
                layAnew();
            }
            while (open()) {
                int luck = chance.nextInt(60);
                if (luck == 0) {
                    lookAtAll();
                } else if (luck < 4) {
                    walk();
                } else if (luck < 12) {
                    build();
                } else if (luck == 12 && number % 3 == 0) {
                    layAnew();
                } else {
                    once();
                }
            }
        }
    }

    public static void main(String[] args) {
        int runs = args.length > 0 ? Integer.parseInt(args[0]) : 300;
        int[] answers = new int[NAMES.length * 3];
        int wrong = 0;
        for (int number = 0; number < runs && wrong < 5; number++) {
            Run run = new Run(number, answers);
            run.play();
            wrong += run.wrong;
        }
        if (args.length > 0) {
            for (int i = 0; i < NAMES.length; i++) {
                System.out.println(NAMES[i] + ": " + answers[3 * i] + " numbers, " + answers[3 * i + 1] + " NONE, "
                    + answers[3 * i + 2] + " BAD, NO or FULL");
            }
        }
        System.out.println(wrong == 0 ? runs + " runs: all answers are as due" : wrong + " answers are not as due");
        if (wrong != 0) {
            System.exit(1);
        }
    }
}
