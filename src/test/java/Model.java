import java.util.ArrayList;
import java.util.HashSet;
import java.util.List;
import java.util.Set;
import java.util.TreeSet;
import java.util.function.Predicate;

/**
 * The document's days, villages and acts written a second time in another way (KINDS as Java classes, sets, copies),
 * so that the two can be compared.
 */
final class Model {
    static class Singer {
        int number, kind, v, memory, forgot;
        boolean away;
        TreeSet<Integer> holds = new TreeSet<>();
        int[] row = new int[4];
        List<Integer> bodies = new ArrayList<>();

        int strain(World w) { return w.sum(this); }
        int hums(int x) { bodies.add(10); return x + number; }
        int sings(int x) { bodies.add(11); return hums(x) - v; }
        int tells(int x) { bodies.add(12); return sings(x) * 2; }
    }

    static class Bass extends Singer {
        @Override int strain(World w) { return super.strain(w) + v; }
        @Override int sings(int x) { bodies.add(20); return super.sings(x) ^ 6; }
    }

    static class Child extends Singer {
        @Override int strain(World w) { int s = super.strain(w); return s < 0 ? -(-s / 2) : s / 2; }
        @Override int hums(int x) { bodies.add(30); return super.hums(x * 3); }
    }

    static class Old extends Singer {
        @Override int strain(World w) {
            int s = super.strain(w);
            for (Singer o : w.singers) {
                Set<Integer> shared = new HashSet<>(o.holds);
                shared.retainAll(holds);
                if (o != this && !o.away && !shared.isEmpty()) {
                    s -= 3;
                }
            }
            return s;
        }
        @Override int tells(int x) { bodies.add(40); return super.tells(x) + sings(1); }
    }

    static class Deserter extends Bass {
        @Override int strain(World w) { int s = super.strain(w); return holds.size() > 4 ? s + s : s; }
        @Override int hums(int x) { bodies.add(50); return -super.hums(x); }
        @Override int sings(int x) { bodies.add(51); return super.sings(x + 1); }
    }

    static class Hummer extends Child {
        @Override int strain(World w) { return w.day % 2 != 0 ? super.strain(w) - v : super.strain(w); }
        @Override int tells(int x) { bodies.add(60); return super.tells(x - number); }
    }

    static class Told extends Old {
        @Override int strain(World w) { return super.strain(w) + row[w.day % 4]; }
        @Override int sings(int x) { bodies.add(70); return super.sings(x) + super.hums(2); }
        @Override int hums(int x) { bodies.add(71); return super.hums(x) ^ v; }
    }

    static Singer ofKind(int kind) {
        switch (kind) {
            case 1: return new Bass();
            case 2: return new Child();
            case 3: return new Old();
            case 4: return new Deserter();
            case 5: return new Hummer();
            case 6: return new Told();
            default: return new Singer();
        }
    }

    static final Class<?>[] CLASSES = {
        Singer.class, Bass.class, Child.class, Old.class, Deserter.class, Hummer.class, Told.class
    };

    /** What a clause looks at: a SINGER and the DAY. */
    record Sight(Singer s, int day) {
        int of(char letter) {
            switch (letter) {
                case 'p': return s.number;
                case 'k': return s.kind;
                case 'v': return s.v;
                case 'n': return s.holds.size();
                case 'm': return s.memory / 10;
                default: return day % 10;
            }
        }
    }

    record Clause(int n, Predicate<Sight> e) { }

    static final class Village {
        final List<Clause> clauses = new ArrayList<>();
        int anew = 50;
    }

    static final class World {
        int day;
        Village village;
        List<Singer> singers = new ArrayList<>();
        int[] sacks = {10, 10, 10, 10, 10, 10, 10, 10};
        List<int[]> seen = new ArrayList<>();
        List<int[]> plan = new ArrayList<>();
        List<int[]> book = new ArrayList<>();

        World copy() {
            World w = new World();
            w.day = day;
            w.village = village;
            w.sacks = sacks.clone();
            w.seen.addAll(seen);
            w.plan.addAll(plan);
            w.book.addAll(book);
            for (Singer s : singers) {
                Singer c = ofKind(s.kind);
                c.number = s.number;
                c.kind = s.kind;
                c.v = s.v;
                c.memory = s.memory;
                c.forgot = s.forgot;
                c.away = s.away;
                c.holds.addAll(s.holds);
                c.row = s.row.clone();
                w.singers.add(c);
            }
            return w;
        }

        int sum(Singer s) {
            int sum = 2 * s.holds.size();
            if (village != null) {
                for (Clause c : village.clauses) {
                    sum += c.e().test(new Sight(s, day)) ? c.n() : 0;
                }
            }
            return sum;
        }

        void day(int most) {
            World ahead = copy();
            for (Singer s : singers) {
                if (s.away) {
                    continue;
                }
                Singer was = ahead.singers.get(s.number);
                s.memory = was.memory - was.strain(ahead);
                s.memory = s.memory < 0 ? 0 : s.memory > 99 ? 99 : s.memory;
                if (s.memory == 0 && !s.holds.isEmpty()) {
                    s.holds.pollFirst();
                    s.forgot = s.forgot == most ? most : s.forgot + 1;
                    s.memory = village == null ? 50 : village.anew;
                }
            }
            day++;
        }

        World after(int n) {
            World w = copy();
            for (int d = 0; d < n; d++) {
                w.day(-1);
            }
            return w;
        }

        Set<Integer> kept() {
            Set<Integer> kept = new TreeSet<>();
            for (Singer s : singers) {
                if (!s.away) {
                    kept.addAll(s.holds);
                }
            }
            return kept;
        }

        int sacksKept() {
            int sum = 0;
            for (int part : kept()) {
                sum += sacks[part];
            }
            return sum;
        }

        int lost(int part) {
            for (int n = 0; n <= 60; n++) {
                if (!after(n).kept().contains(part)) {
                    return n;
                }
            }
            return 1000;
        }

        int heir(int part) {
            int best = lost(part);
            int heir = -5;
            for (Singer s : singers) {
                if (!s.away && !s.holds.contains(part)) {
                    World w = copy();
                    w.singers.get(s.number).holds.add(part);
                    int lost = w.lost(part);
                    if (lost > best) {
                        best = lost;
                        heir = s.number;
                    }
                }
            }
            return heir;
        }

        boolean seenIsSo() {
            for (int[] row : seen) {
                if (after(row[1]).singers.get(row[0]).memory != row[2]) {
                    return false;
                }
            }
            return true;
        }

        List<Integer> fitting(int p, boolean memory) {
            List<Integer> all = new ArrayList<>();
            for (int n = 0; n < (memory ? 100 : 10); n++) {
                World w = copy();
                if (memory) {
                    w.singers.get(p).memory = n;
                } else {
                    w.singers.get(p).v = n;
                }
                if (w.seenIsSo()) {
                    all.add(n);
                }
            }
            return all;
        }

        int choir(Set<Integer> parts, int times) {
            for (int fewest = 0; fewest <= 6; fewest++) {
                for (int set = 0; set < 64; set++) {
                    if (Integer.bitCount(set) == fewest && sings(set, parts, times)) {
                        return set;
                    }
                }
            }
            return -5;
        }

        private boolean sings(int set, Set<Integer> parts, int times) {
            int[] held = new int[8];
            for (int p = 0; p < 6; p++) {
                if ((set & 1 << p) == 0) {
                    continue;
                }
                if (p >= singers.size() || singers.get(p).away) {
                    return false;
                }
                for (int part : singers.get(p).holds) {
                    held[part]++;
                }
            }
            for (int part : parts) {
                if (held[part] < times) {
                    return false;
                }
            }
            return true;
        }

        World behindPlan() {
            World w = copy();
            for (int[] row : plan) {
                if (row[0] == 0) {
                    w.day(-1);
                } else if (row[0] == 3) {
                    w.singers.get(row[1]).memory = 99;
                } else {
                    w.singers.get(row[1]).away = row[0] == 1;
                }
            }
            return w;
        }
    }

    static TreeSet<Integer> parts(int bits) {
        TreeSet<Integer> parts = new TreeSet<>();
        for (int part = 0; part < 8; part++) {
            if ((bits >> part & 1) == 1) {
                parts.add(part);
            }
        }
        return parts;
    }

    static int bits(Set<Integer> parts) {
        int bits = 0;
        for (int part : parts) {
            bits += 1 << part;
        }
        return bits;
    }

    /** Reads a text with every way open at once; the fault is the furthest place that no way could pass. */
    static final class Reader {
        private final String text;
        int furthest;

        Reader(String text) {
            this.text = text;
        }

        record Read<T>(T what, int end) { }

        private boolean is(int at, char c) {
            furthest = Math.max(furthest, at);
            return at < text.length() && text.charAt(at) == c;
        }

        private List<Integer> word(int at, String word) {
            int end = at;
            for (char c : word.toCharArray()) {
                if (!is(end, c)) {
                    return List.of();
                }
                end++;
            }
            return List.of(end);
        }

        private List<Read<Integer>> number(int at) {
            List<Read<Integer>> all = new ArrayList<>();
            for (int n = 0; n < 10; n++) {
                if (is(at, (char) ('0' + n))) {
                    all.add(new Read<>(n, at + 1));
                    for (int m = 0; m < 10; m++) {
                        if (is(at + 1, (char) ('0' + m))) {
                            all.add(new Read<>(10 * n + m, at + 2));
                        }
                    }
                }
            }
            return all;
        }

        private List<Read<Predicate<Sight>>> e(int at, int within) {
            List<Read<Predicate<Sight>>> all = new ArrayList<>();
            for (Read<Predicate<Sight>> t : t(at, within)) {
                all.add(t);
                if (is(t.end(), '|')) {
                    for (Read<Predicate<Sight>> e : e(t.end() + 1, within)) {
                        all.add(new Read<>(t.what().or(e.what()), e.end()));
                    }
                }
            }
            return all;
        }

        private List<Read<Predicate<Sight>>> t(int at, int within) {
            List<Read<Predicate<Sight>>> all = new ArrayList<>();
            for (Read<Predicate<Sight>> f : f(at, within)) {
                all.add(f);
                if (is(f.end(), '&')) {
                    for (Read<Predicate<Sight>> t : t(f.end() + 1, within)) {
                        all.add(new Read<>(f.what().and(t.what()), t.end()));
                    }
                }
            }
            return all;
        }

        private List<Read<Predicate<Sight>>> f(int at, int within) {
            List<Read<Predicate<Sight>>> all = new ArrayList<>();
            if (within < 4 && is(at, '!')) {
                for (Read<Predicate<Sight>> f : f(at + 1, within + 1)) {
                    all.add(new Read<>(f.what().negate(), f.end()));
                }
            }
            if (within < 4 && is(at, '(')) {
                for (Read<Predicate<Sight>> e : e(at + 1, within + 1)) {
                    if (is(e.end(), ')')) {
                        all.add(new Read<>(e.what(), e.end() + 1));
                    }
                }
            }
            for (char letter : "pkvnmd".toCharArray()) {
                if (is(at, letter)) {
                    for (char sign : "<=>".toCharArray()) {
                        if (is(at + 1, sign)) {
                            for (Read<Integer> n : number(at + 2)) {
                                all.add(new Read<>(test(letter, sign, n.what()), n.end()));
                            }
                        }
                    }
                }
            }
            return all;
        }

        private static Predicate<Sight> test(char letter, char sign, int n) {
            return s -> sign == '<' ? s.of(letter) < n : sign == '>' ? s.of(letter) > n : s.of(letter) == n;
        }

        private List<Read<Clause>> clause(int at) {
            List<Read<Clause>> all = new ArrayList<>();
            for (int end : word(at, "anew ")) {
                for (Read<Integer> n : number(end)) {
                    all.add(new Read<>(new Clause(n.what(), null), n.end()));
                }
            }
            for (String word : List.of("hard ", "easy ")) {
                for (int end : word(at, word)) {
                    for (Read<Integer> n : number(end)) {
                        for (int behind : word(n.end(), " ")) {
                            for (Read<Predicate<Sight>> e : e(behind, 0)) {
                                int sum = word.equals("hard ") ? n.what() : -n.what();
                                all.add(new Read<>(new Clause(sum, e.what()), e.end()));
                            }
                        }
                    }
                }
            }
            return all;
        }

        /** null: there is a fault, at 'furthest'. */
        Village village(int at, int clauses) {
            for (Read<Clause> c : clause(at)) {
                Village v = null;
                if (c.end() == text.length()) {
                    v = new Village();
                } else if (clauses < 9 && is(c.end(), ';')) {
                    v = village(c.end() + 1, clauses + 1);
                } else {
                    furthest = Math.max(furthest, c.end());
                }
                if (v != null) {
                    if (c.what().e() != null) {
                        v.clauses.add(c.what());
                    } else if (!hasAnew) {
                        v.anew = c.what().n();
                        hasAnew = true;
                    }
                    return v;
                }
            }
            return null;
        }

        private boolean hasAnew;
    }

    World now = new World();
    private World image;
    private StringBuilder text = new StringBuilder();
    private int villages;
    private List<Integer> bodies = new ArrayList<>();
    private final Object[] tapes = new Object[6];

    private boolean no(int n, int most) {
        return n < 0 || n > most;
    }

    private boolean noSinger(int p) {
        return no(p, now.singers.size() - 1);
    }

    int singer(int kind, int v, int parts, int memory) {
        if (no(kind, 6)) return -1;
        if (no(v, 9) || no(parts, 255) || no(memory, 99)) return -2;
        if (now.singers.size() == 6) return -4;
        Singer s = ofKind(kind);
        s.number = now.singers.size();
        s.kind = kind;
        s.v = v;
        s.memory = memory;
        s.holds = parts(parts);
        now.singers.add(s);
        return s.number;
    }

    int of(int p, int what) {
        if (noSinger(p) || no(what, 8)) return -10001;
        Singer s = now.singers.get(p);
        List<Integer> fitting = what < 7 ? List.of() : now.fitting(p, true);
        int least = fitting.isEmpty() ? -5 : fitting.get(0);
        int[] all = {s.kind, s.v, bits(s.holds), s.memory, s.away ? 1 : 0, s.forgot, s.strain(now), fitting.size(), least};
        return all[what];
    }

    int part(int part, int what) {
        if (no(part, 7) || no(what, 4)) return -1;
        if (what == 0) return now.sacks[part];
        if (what == 1) return now.kept().contains(part) ? 1 : 0;
        if (what == 2) return now.lost(part) > 60 ? -5 : now.lost(part);
        if (what == 3) return now.heir(part);
        return (int) now.singers.stream().filter(s -> !s.away && s.holds.contains(part)).count();
    }

    int set(int p, int what, int n) {
        if (noSinger(p) || no(what, 1)) return -1;
        if (no(n, what == 0 ? 255 : 99)) return -2;
        Singer s = now.singers.get(p);
        int was = what == 0 ? bits(s.holds) : s.memory;
        if (what == 0) s.holds = parts(n);
        else s.memory = n;
        return was;
    }

    int away(int p, boolean is) {
        if (noSinger(p)) return -1;
        boolean was = now.singers.get(p).away;
        now.singers.get(p).away = is;
        return was ? 1 : 0;
    }

    int sacks(int part, int n) {
        if (no(part, 7)) return -1;
        if (no(n, 99)) return -2;
        int was = now.sacks[part];
        now.sacks[part] = n;
        return was;
    }

    int teach(int p, int other, int part) {
        if (noSinger(p) || noSinger(other) || no(part, 7)) return -1;
        if (p == other) return -2;
        Singer s = now.singers.get(p);
        Singer o = now.singers.get(other);
        if (s.away || o.away || !o.holds.contains(part)) return -3;
        s.holds.add(part);
        return s.holds.size();
    }

    int row(int p, int part, int n) {
        if (noSinger(p) || no(part, 3)) return -1;
        if (no(n, 9)) return -2;
        Singer s = now.singers.get(p);
        if (!(s instanceof Told)) return -3;
        int was = s.row[part];
        s.row[part] = n;
        return was;
    }

    int feed(int sign) {
        if (no(sign, 127)) return -2;
        if (text.length() == 100) return -4;
        text.append((char) sign);
        return text.length();
    }

    int village() {
        if (villages == 6) return -4;
        Reader reader = new Reader(text.toString());
        Village village = reader.village(0, 0);
        text = new StringBuilder();
        if (village == null) return -10 - reader.furthest;
        now.village = village;
        return villages++;
    }

    int told(int what) {
        int[] all = {now.day, now.village == null ? 50 : now.village.anew, bits(now.kept()), now.sacksKept(), 0, 0};
        for (int part = 0; part < 8; part++) {
            all[4] += part(part, 4) > 1 ? 1 << part : 0;
        }
        for (Singer s : now.singers) {
            all[5] += s.away ? 1 << s.number : 0;
        }
        return no(what, 5) ? -1 : all[what];
    }

    int pass(int n) {
        if (no(n, 60)) return -2;
        if (now.day + n > 9999) return -3;
        for (int d = 0; d < n; d++) {
            now.day(9999);
        }
        return now.day;
    }

    int on(int n, int what) {
        int p = what % 10;
        boolean ofOne = (what / 10 == 1 || what / 10 == 2) && !noSinger(p);
        if (what != 0 && what != 1 && !ofOne) return -1;
        if (no(n, 60)) return -2;
        World w = now.after(n);
        if (what == 0) return bits(w.kept());
        if (what == 1) return w.sacksKept();
        return what < 20 ? w.singers.get(p).memory : bits(w.singers.get(p).holds);
    }

    int choir(int parts, int what) {
        if (no(what, 1)) return -1;
        if (no(parts, 255)) return -2;
        return now.choir(parts(parts), what + 1);
    }

    int see(int p, int n, int memory) {
        if (p == -1) {
            now.seen.clear();
            return 0;
        }
        if (noSinger(p)) return -1;
        if (no(n, 12) || no(memory, 99)) return -2;
        if (now.seen.size() == 5) return -4;
        now.seen.add(new int[] {p, n, memory});
        return now.seen.size();
    }

    int can(int p, int what) {
        if (noSinger(p) || no(what, 1)) return -1;
        List<Integer> fitting = now.fitting(p, false);
        return what == 0 ? fitting.size() : fitting.isEmpty() ? -5 : fitting.get(0);
    }

    private static long fraction(int above, int below, int part) {
        for (int d = below; d > 0; d--) {
            if (above % d == 0 && below % d == 0) {
                return part == 0 ? above / d : below / d;
            }
        }
        return Long.MIN_VALUE;
    }

    long odds(int grain, int n, int part) {
        if (no(grain, 7) || no(n, 20) || no(part, 1)) return Long.MIN_VALUE;
        int all = 0;
        int kept = 0;
        for (Singer s : now.singers) {
            if (!s.away) {
                World w = now.copy();
                w.singers.get(s.number).away = true;
                all++;
                kept += w.after(n).kept().contains(grain) ? 1 : 0;
            }
        }
        return fraction(kept, all, part);
    }

    long mean(int n, int part) {
        if (no(n, 60) || no(part, 1)) return Long.MIN_VALUE;
        World w = now.after(n);
        return fraction(w.sacksKept(), w.kept().size(), part);
    }

    int plan(int what, int p) {
        if (what == -1) {
            now.plan.clear();
            return 0;
        }
        if (no(what, 3) || what > 0 && noSinger(p)) return -1;
        if (now.plan.size() == 10) return -4;
        now.plan.add(new int[] {what, p});
        return now.plan.size();
    }

    int ends(int what) {
        if (no(what, 1)) return -1;
        World w = now.behindPlan();
        return what == 0 ? bits(w.kept()) : w.singers.stream().mapToInt(s -> s.forgot).sum();
    }

    int book(int part, int sacks) {
        if (part == -1) {
            now.book.clear();
            return 0;
        }
        if (no(part, 7)) return -1;
        if (no(sacks, 99)) return -2;
        if (now.book.size() == 8) return -4;
        now.book.add(new int[] {part, sacks});
        return now.book.size();
    }

    int looked() {
        for (int[] row : now.book) {
            if (now.sacks[row[0]] != row[1]) {
                return now.book.indexOf(row);
            }
        }
        return -5;
    }

    int judge(int tape, int i) {
        if (no(tape, 5)) return -1;
        if (tapes[tape] == null) return 100;
        if (!(tapes[tape] instanceof byte[] row)) return -12;
        if (i < 0) return 100;
        for (int part = 0; part < 8; part++) {
            if ((long) i + part >= row.length) return 100 + part;
            if (row[i + part] != now.sacks[part]) return part;
        }
        return -5;
    }

    int image() {
        image = now.copy();
        return now.singers.size();
    }

    int undo() {
        if (image == null) return -3;
        now = image.copy();
        return now.singers.size();
    }

    int act(int p, int act, int x) {
        bodies = new ArrayList<>();
        if (noSinger(p) || no(act, 2)) return 0;
        Singer s = now.singers.get(p);
        s.bodies = bodies;
        return act == 0 ? s.hums(x) : act == 1 ? s.sings(x) : s.tells(x);
    }

    int trace(int i) {
        return no(i, Math.min(bodies.size(), 20) - 1) ? -1 : bodies.get(i);
    }

    int taken(int p, int k) {
        if (no(k, 6)) return -2;
        if (noSinger(p)) return -11;
        return CLASSES[k].isInstance(now.singers.get(p)) ? now.singers.get(p).kind : -12;
    }

    int count(int what) {
        int[] all = {now.singers.size(), villages, now.seen.size(), now.plan.size(), now.book.size(), text.length(), bodies.size()};
        return no(what, 6) ? -2 : all[what];
    }

    int tape(int tape, int sort, int n) {
        if (no(tape, 5)) return -1;
        if (sort != -1 && (no(sort, 4) || n > 60)) return -2;
        if (sort != -1 && n < 0) return -14;
        Class<?>[] types = {byte.class, short.class, int.class, long.class, boolean.class};
        tapes[tape] = sort == -1 ? null : java.lang.reflect.Array.newInstance(types[sort], n);
        return 1;
    }

    int item(int tape, int i, long v) {
        if (no(tape, 5)) return -1;
        if (tapes[tape] == null) return -11;
        if (no(i, java.lang.reflect.Array.getLength(tapes[tape]) - 1)) return -13;
        if (tapes[tape] instanceof byte[] row) row[i] = (byte) v;
        else if (tapes[tape] instanceof short[] row) row[i] = (short) v;
        else if (tapes[tape] instanceof int[] row) row[i] = (int) v;
        else if (tapes[tape] instanceof long[] row) row[i] = v;
        else if (tapes[tape] instanceof boolean[] row) row[i] = v != 0;
        return 1;
    }

    long read(int tape, int i) {
        if (no(tape, 5) || tapes[tape] == null) return Long.MIN_VALUE;
        if (no(i, java.lang.reflect.Array.getLength(tapes[tape]) - 1)) return Long.MIN_VALUE;
        if (tapes[tape] instanceof boolean[] row) return row[i] ? 1 : 0;
        return ((Number) java.lang.reflect.Array.get(tapes[tape], i)).longValue();
    }

    int shift(int tape, int i, int other, int j, int n) {
        if (no(tape, 5) || no(other, 5)) return -1;
        if (tapes[tape] == null || tapes[other] == null) return -11;
        if (tapes[tape].getClass() != tapes[other].getClass()) return -12;
        int ends = java.lang.reflect.Array.getLength(tapes[tape]);
        int otherEnds = java.lang.reflect.Array.getLength(tapes[other]);
        if (n < 0 || i < 0 || j < 0 || (long) i + n > ends || (long) j + n > otherEnds) return -13;
        System.arraycopy(tapes[tape], i, tapes[other], j, n);
        return n;
    }
}
