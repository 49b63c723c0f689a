import java.util.ArrayList;
import java.util.Arrays;
import java.util.Comparator;
import java.util.List;
import java.util.Random;

/** Long runs of drawn calls, each answer held against a slow model that follows the document's words one by one. */
public final class SpiteLineModel {
    private static final int NONE = -1, UNKNOWN = -1000000001, OUTSIDE = -1000000002, NOT = -1000000003, FULL = -1000000004;
    private static final int RUNS = 4000, CALLS = 512, NUMBER = 256;
    private static int wrong = 0;
    private static int used = 0;

    public static void main(String[] args) {
        for (int run = 0; run < RUNS && wrong < 20; run++) {
            play(new Random(run), run);
        }
        System.out.println(wrong == 0 ? "the model agrees" : wrong + " answers differ from the model's");
        if (wrong != 0) {
            System.exit(1);
        }
    }

    // ---- the calls

    private static void play(Random r, int run) {
        SpiteLine x = new SpiteLine();
        Model m = new Model();
        String pending = "";
        used = 0;
        // one turn makes eleven calls at most, and nothing is promised behind the last one
        for (int call = 0; used + 11 <= CALLS && wrong < 20; call++) {
            if (!pending.isEmpty()) {
                int letter = pending.charAt(0);
                pending = pending.substring(1);
                same(run, call, "feed(" + letter + ")", x.feed(letter), m.feed(letter));
                if (pending.isEmpty()) {
                    same(run, call, "line()", x.line(), m.line());
                    same(run, call, "fault()", x.fault(), m.faultAt);
                }
            } else if (call == 0 ? r.nextInt(8) != 0 : r.nextInt(m.stations == 0 ? 20 : 300) == 0) {
                // letters of drawn feeds would spoil every text
                same(run, call, "line()", x.line(), m.line());
                pending = drawText(r);
            } else {
                one(r, x, m, run, call);
            }
        }
    }

    private static void same(int run, int call, String what, int got, int want) {
        used++;
        if (got != want) {
            wrong++;
            System.out.println("run " + run + ", call " + call + ": " + what + " answered " + got + ", the model " + want);
        }
    }

    /** Mostly what there is, now and then not. */
    private static int near(Random r, int n) {
        int k = r.nextInt(40);
        if (k == 0) {
            return -1 - r.nextInt(3);
        }
        if (k == 1) {
            return n + r.nextInt(3);
        }
        if (k == 2 && r.nextInt(4) == 0) {
            return r.nextInt();
        }
        return n > 0 ? r.nextInt(n) : r.nextInt(3);
    }

    private static void one(Random r, SpiteLine x, Model m, int run, int call) {
        int p = near(r, m.persons.size());
        int s = near(r, m.stations);
        boolean is = r.nextBoolean();
        int v;
        switch (r.nextInt(34)) {
            case 0: v = near(r, 256); same(run, call, "feed " + v, x.feed(v), m.feed(v)); break;
            case 1: v = near(r, 12); same(run, call, "told " + v, x.told(v), m.told(v)); break;
            case 2: v = near(r, 8); same(run, call, "person " + p + " " + v, x.person(p, v), m.person(p, v)); break;
            case 3: v = near(r, 2); same(run, call, "station " + s + " " + v, x.station(s, v), m.station(s, v)); break;
            case 4: case 5: v = near(r, 10); same(run, call, "mien " + p + " " + v, x.mien(p, v), m.mien(p, v)); break;
            case 6: same(run, call, "feet " + p, x.feet(p, is), m.turn(p, is, true)); break;
            case 7: same(run, call, "flowers " + p, x.flowers(p, is), m.turn(p, is, false)); break;
            case 8: case 9: same(run, call, "walk " + p + " " + s, x.walk(p, s), m.walk(p, s)); break;
            case 10: v = near(r, 10); same(run, call, "fog " + v, x.fog(v), m.fog(v)); break;
            case 11: v = near(r, 3); same(run, call, "train " + v, x.train(v), m.trains(v, false)); break;
            case 12: v = near(r, 21); same(run, call, "drift " + v, x.drift(v), m.trains(v, true)); break;
            case 13: v = near(r, r.nextInt(30) + 1); same(run, call, "undo " + v, x.undo(v), m.undo(v)); break;
            case 14: same(run, call, "stops", x.stops(), m.stops()); break;
            case 15: v = near(r, 1 << m.stations); same(run, call, "calm " + v, x.calm(v), m.calm(v)); break;
            case 16: same(run, call, "journey " + p, x.journey(p), m.journey(p)); break;
            case 17: v = near(r, 21); same(run, call, "never " + v, x.never(v), m.never(v)); break;
            case 18: same(run, call, "cut " + p, x.cut(p), m.cut(p)); break;
            case 19: case 20: same(run, call, "aunts " + p + " " + s, x.aunts(p, s), m.aunts(p, s)); break;
            case 21: v = near(r, 101) / (1 + r.nextInt(9)); same(run, call, "chance " + s + " " + v, x.chance(s, v), m.chance(s, v)); break;
            case 22: is = r.nextInt(6) == 0 ? is : m.hasStation(s) && (m.stops() >> s & 1) == 1;
                same(run, call, "ran " + s, x.ran(s, is), m.ran(s, is)); break;
            case 23: case 24: v = near(r, 10) - 1; same(run, call, "hoped " + v, x.hoped(v), m.hoped(v)); break;
            case 25: same(run, call, "sure", x.sure(), m.sure()); break;
            case 26: same(run, call, "look", x.look(), m.look()); break;
            case 27: v = r.nextBoolean() && m.hasPerson(p) ? m.persons.get(p).where : s;
                same(run, call, "write " + p + " " + v, x.write(p, v), m.write(p, v)); break;
            case 28: same(run, call, "judge", x.judge(), m.judge()); break;
            case 29: if (r.nextInt(6) == 0) { same(run, call, "tear", x.tear(), m.tear()); } break;
            case 30: v = r.nextInt(); same(run, call, "seed " + v, x.seed(v), m.seed(v)); break;
            case 31: v = near(r, 2); if (r.nextInt(8) == 0) { same(run, call, "keep " + v, x.keep(v), m.keep(v)); } break;
            case 32: v = near(r, 2); if (r.nextInt(8) == 0) { same(run, call, "goBack " + v, x.goBack(v), m.goBack(v)); } break;
            default: same(run, call, "fault", x.fault(), m.faultAt); break;
        }
        for (int what = 2; what <= 11; what++) {
            same(run, call, "then told " + what, x.told(what), m.told(what));
        }
    }

    /** A text that is right, and in a third of the runs then spoilt. */
    private static String drawText(Random r) {
        StringBuilder b = new StringBuilder();
        int stations = 2 + r.nextInt(7);
        int limit = 1 + r.nextInt(15);
        b.append('s').append(stations).append(' ').append(limit).append(' ').append(r.nextInt(limit > 7 ? 3 : 10)).append(';');
        int persons = r.nextInt(10);
        for (int p = 0; p < persons; p++) {
            int at = r.nextInt(stations);
            int wants = (at + 1 + r.nextInt(stations - 1)) % stations;
            int met = p == 0 || r.nextInt(3) == 0 ? 9 : r.nextInt(p);
            b.append('p').append(at).append(' ').append(wants).append(' ').append(met).append(' ');
            b.append(r.nextInt(10)).append(' ').append(r.nextInt(4)).append(';');
        }
        int spoilt = r.nextInt(3) == 0 ? 1 + r.nextInt(3) : 0;
        String signs = "sp; 0123456789q";
        for (int k = 0; k < spoilt; k++) {
            int at = r.nextInt(b.length());
            char sign = signs.charAt(r.nextInt(signs.length()));
            switch (r.nextInt(4)) {
                case 0: b.setCharAt(at, sign); break;
                case 1: b.insert(at, sign); break;
                case 2: b.setLength(at + 1); break;
                default: b.deleteCharAt(at); break;
            }
            if (b.length() == 0) {
                b.append(' ');
            }
        }
        return b.toString();
    }

    // ---- the model

    private static final class Person {
        int where, wants, met, mien;
        boolean feet, flowers, aboard;

        Person copy() {
            Person c = new Person();
            c.where = where;
            c.wants = wants;
            c.met = met;
            c.mien = mien;
            c.feet = feet;
            c.flowers = flowers;
            return c;
        }

        int shows() {
            return mien + (feet ? 2 : 0) + (flowers ? 3 : 0);
        }
    }

    private static final class Shot {
        List<Person> persons;
        int fog, count, latest;
        int seed;
    }

    private static final class Model {
        String text = "";
        int faultAt = NONE;
        int stations, limit, fog, count, latest, seed;
        List<Person> persons = new ArrayList<>();
        final List<Shot> past = new ArrayList<>();
        final Shot[] images = new Shot[2];
        final List<int[]> ran = new ArrayList<>();
        final List<int[]> book = new ArrayList<>();

        boolean hasPerson(int p) {
            return p >= 0 && p < persons.size();
        }

        boolean hasStation(int x) {
            return x >= 0 && x < stations;
        }

        int feed(int letter) {
            if (letter < 0 || letter > 255) {
                return OUTSIDE;
            }
            if (text.length() == 200) {
                return FULL;
            }
            text += (char) letter;
            return text.length();
        }

        // Each token: place, kind (its letter; 256 a number; NONE the end), value (1000 for four figures or more).
        private static List<int[]> tokens(String t) {
            List<int[]> all = new ArrayList<>();
            int i = 0;
            while (i < t.length()) {
                char c = t.charAt(i);
                int j = i + 1;
                if (c >= '0' && c <= '9') {
                    while (j < t.length() && t.charAt(j) >= '0' && t.charAt(j) <= '9') {
                        j++;
                    }
                    all.add(new int[] {i, NUMBER, j - i > 3 ? 1000 : Integer.parseInt(t.substring(i, j))});
                } else if (c != ' ') {
                    all.add(new int[] {i, c, 0});
                }
                i = j;
            }
            all.add(new int[] {t.length(), NONE, 0});
            return all;
        }

        int line() {
            List<int[]> all = tokens(text);
            text = "";
            int[] head = null;
            List<Person> told = new ArrayList<>();
            int[] shape = {};
            int[] v = new int[5];
            int due = 0;
            for (int[] t : all) {
                int kind = 0;
                if (shape.length == 0) {
                    if (t[1] == NONE) {
                        break;
                    }
                    if (t[1] == 's') {
                        kind = head != null ? 3 : 0;
                        shape = new int[] {NUMBER, NUMBER, NUMBER, ';'};
                    } else if (t[1] == 'p' && head != null) {
                        kind = told.size() == 8 ? 3 : 0;
                        shape = new int[] {NUMBER, NUMBER, NUMBER, NUMBER, NUMBER, ';'};
                    } else {
                        kind = 1;
                    }
                    due = 0;
                } else if (t[1] != shape[due]) {
                    kind = 1;
                } else if (t[1] == ';') {
                    if (shape.length == 4) {
                        head = new int[] {v[0], v[1], v[2]};
                    } else {
                        told.add(made(v));
                    }
                    shape = new int[0];
                } else {
                    v[due] = t[2];
                    kind = shape.length == 4 ? headFault(due, v) : personFault(due, v, head[0], told.size());
                    due++;
                }
                if (kind != 0) {
                    faultAt = t[0];
                    return -10 - kind;
                }
            }
            faultAt = NONE;
            stations = head == null ? 0 : head[0];
            limit = head == null ? 0 : head[1];
            fog = head == null ? 0 : head[2];
            persons = told;
            count = 0;
            latest = 0;
            past.clear();
            ran.clear();
            book.clear();
            Arrays.fill(images, null);
            return told.size();
        }

        private static int headFault(int due, int[] v) {
            int[] low = {2, 1, 0};
            int[] high = {8, 15, 9};
            return v[due] < low[due] || v[due] > high[due] ? 2 : 0;
        }

        private static int personFault(int due, int[] v, int stations, int told) {
            boolean bad;
            switch (due) {
                case 0: bad = v[0] >= stations; break;
                case 1: bad = v[1] >= stations; break;
                case 2: bad = v[2] >= told && v[2] != 9; break;
                case 3: bad = v[3] > 9; break;
                default: bad = v[4] > 3; break;
            }
            return bad ? 2 : due == 1 && v[0] == v[1] ? 4 : 0;
        }

        private static Person made(int[] v) {
            Person p = new Person();
            p.where = v[0];
            p.wants = v[1];
            p.met = v[2] == 9 ? NONE : v[2];
            p.mien = v[3];
            p.feet = v[4] % 2 == 1;
            p.flowers = v[4] / 2 == 1;
            return p;
        }

        private static List<Person> copies(List<Person> from) {
            List<Person> to = new ArrayList<>();
            for (Person p : from) {
                to.add(p.copy());
            }
            return to;
        }

        Shot shot() {
            Shot s = new Shot();
            s.persons = copies(persons);
            s.fog = fog;
            s.count = count;
            s.latest = latest;
            s.seed = seed;
            return s;
        }

        void restore(Shot s) {
            persons = copies(s.persons);
            fog = s.fog;
            count = s.count;
            latest = s.latest;
        }

        void deed() {
            past.add(shot());
            if (past.size() > 30) {
                past.remove(0);
            }
        }

        boolean awaited(List<Person> all, int x) {
            for (Person p : all) {
                if (!p.aboard && p.where == x && p.shows() >= limit + fog) {
                    return true;
                }
            }
            return false;
        }

        int run(List<Person> all, int others) {
            int halted = 0;
            for (int x = 0; x < stations; x++) {
                if (!awaited(all, x) && (others >> x & 1) == 0) {
                    halted |= 1 << x;
                    List<Person> stood = new ArrayList<>();
                    for (Person p : all) {
                        if (!p.aboard && p.where == x) {
                            stood.add(p);
                        }
                    }
                    for (Person p : all) {
                        if (p.aboard && p.wants == x) {
                            Person by = p.met == NONE ? null : all.get(p.met);
                            if (by == null || by.aboard || by.where != x) {
                                p.aboard = false;
                                p.where = x;
                            }
                        }
                    }
                    for (Person p : stood) {
                        p.aboard = p.wants > x;
                    }
                }
            }
            for (Person p : all) {
                if (p.aboard) {
                    p.aboard = false;
                    p.where = stations - 1;
                }
            }
            return halted;
        }

        int arrived() {
            int set = 0;
            for (int p = 0; p < persons.size(); p++) {
                set |= persons.get(p).where == persons.get(p).wants ? 1 << p : 0;
            }
            return set;
        }

        int told(int what) {
            int set = 0;
            for (int x = 0; x < stations; x++) {
                set |= awaited(persons, x) ? 1 << x : 0;
            }
            int[] all = {stations, limit, fog, persons.size(), text.length(), count, latest, set, arrived(), ran.size(), book.size(), past.size()};
            return what < 0 || what > 11 ? OUTSIDE : all[what];
        }

        int person(int p, int what) {
            if (!hasPerson(p)) {
                return UNKNOWN;
            }
            Person q = persons.get(p);
            int[] all = {q.where, q.wants, q.met, q.mien, q.feet ? 1 : 0, q.flowers ? 1 : 0, q.shows(), q.where == q.wants ? 1 : 0};
            return what < 0 || what > 7 ? OUTSIDE : all[what];
        }

        int station(int x, int what) {
            if (!hasStation(x)) {
                return UNKNOWN;
            }
            int set = 0;
            int most = 0;
            for (int p = 0; p < persons.size(); p++) {
                if (persons.get(p).where == x) {
                    set |= 1 << p;
                    most = Math.max(most, persons.get(p).shows());
                }
            }
            return what == 0 ? set : what == 1 ? most : OUTSIDE;
        }

        int mien(int p, int v) {
            if (!hasPerson(p)) {
                return UNKNOWN;
            }
            if (v < 0 || v > 9) {
                return OUTSIDE;
            }
            deed();
            int was = persons.get(p).mien;
            persons.get(p).mien = v;
            return was;
        }

        int turn(int p, boolean is, boolean feet) {
            if (!hasPerson(p)) {
                return UNKNOWN;
            }
            deed();
            Person q = persons.get(p);
            boolean was = feet ? q.feet : q.flowers;
            if (feet) {
                q.feet = is;
            } else {
                q.flowers = is;
            }
            return was ? 1 : 0;
        }

        int walk(int p, int x) {
            if (!hasPerson(p) || !hasStation(x)) {
                return UNKNOWN;
            }
            deed();
            int was = persons.get(p).where;
            persons.get(p).where = x;
            return x > was ? x - was : was - x;
        }

        int fog(int v) {
            if (v < 0 || v > 9) {
                return OUTSIDE;
            }
            if (stations == 0) {
                return NOT;
            }
            deed();
            int was = fog;
            fog = v;
            return was;
        }

        int draw(int n) {
            seed = (int) ((seed * 1103515245L + 12345L) % 2147483648L);
            return seed / 65536 % n;
        }

        int trains(int n, boolean byDraws) {
            if (n < 1 || n > 20) {
                return OUTSIDE;
            }
            if (stations == 0) {
                return NOT;
            }
            if (count > 9000) {
                return FULL;
            }
            for (int k = 0; k < n; k++) {
                deed();
                if (byDraws) {
                    if (!persons.isEmpty()) {
                        Person p = persons.get(draw(persons.size()));
                        p.mien = draw(10);
                    }
                    fog = draw(6);
                }
                latest = run(persons, 0);
                count++;
            }
            return arrived();
        }

        int undo(int n) {
            if (n < 1 || n > 30) {
                return OUTSIDE;
            }
            if (n > past.size()) {
                return NOT;
            }
            for (int k = 0; k < n; k++) {
                restore(past.remove(past.size() - 1));
            }
            return count;
        }

        int stops() {
            return run(copies(persons), 0);
        }

        int calm(int set) {
            if (set < 0 || set >= 1 << stations) {
                return UNKNOWN;
            }
            int less = 0;
            List<Person> all = copies(persons);
            for (Person p : all) {
                while ((set >> p.where & 1) == 1 && p.shows() >= limit + fog) {
                    p.mien--;
                    less++;
                }
            }
            return less;
        }

        int journey(int p) {
            if (!hasPerson(p)) {
                return UNKNOWN;
            }
            List<Person> all = copies(persons);
            for (int k = 0; k <= 20; k++) {
                if (all.get(p).where == all.get(p).wants) {
                    return k;
                }
                run(all, 0);
            }
            return NONE;
        }

        int never(int n) {
            if (n < 0 || n > 20) {
                return OUTSIDE;
            }
            int set = (1 << stations) - 1;
            List<Person> all = copies(persons);
            for (int k = 0; k < n; k++) {
                set &= ~run(all, 0);
            }
            return set;
        }

        int cut(int p) {
            if (!hasPerson(p)) {
                return UNKNOWN;
            }
            if (persons.get(p).where == persons.get(p).wants) {
                return NONE;
            }
            int best = NONE;
            for (int set = 0; set < 1 << stations; set++) {
                List<Person> all = copies(persons);
                run(all, set);
                boolean fewer = best == NONE || Integer.bitCount(set) < Integer.bitCount(best);
                if (all.get(p).where != all.get(p).wants && fewer) {
                    best = set;
                }
            }
            return best;
        }

        int aunts(int p, int x) {
            if (!hasPerson(p) || !hasStation(x)) {
                return UNKNOWN;
            }
            int set = 0;
            for (int by = NONE; by < persons.size(); by++) {
                List<Person> all = copies(persons);
                all.get(p).met = by;
                run(all, 0);
                if (by != p && all.get(p).where == x) {
                    set |= 1 << (by == NONE ? 8 : by);
                }
            }
            return set;
        }

        int chance(int x, int q) {
            if (!hasStation(x)) {
                return UNKNOWN;
            }
            if (q < 0 || q > 100) {
                return OUTSIDE;
            }
            long odds = 1000000000;
            for (Person p : persons) {
                if (p.where == x) {
                    odds = odds * (100 - Math.min(100, q * p.shows())) / 100;
                }
            }
            return (int) odds;
        }

        int ran(int x, boolean stops) {
            if (!hasStation(x)) {
                return UNKNOWN;
            }
            if (ran.size() == 8) {
                return FULL;
            }
            ran.add(new int[] {x, stops ? 1 : 0});
            return ran.size();
        }

        List<Integer> sets() {
            List<Integer> fit = new ArrayList<>();
            for (int set = 0; set < 1 << persons.size(); set++) {
                List<Person> all = copies(persons);
                for (int p = 0; p < all.size(); p++) {
                    if ((set >> p & 1) == 1) {
                        all.get(p).mien = 9;
                    }
                }
                int halted = run(all, 0);
                boolean fits = Integer.bitCount(set) <= 2;
                for (int[] r : ran) {
                    fits = fits && (halted >> r[0] & 1) == r[1];
                }
                if (fits) {
                    fit.add(set);
                }
            }
            fit.sort(Comparator.comparingInt((Integer s) -> Integer.bitCount(s)).thenComparingInt(s -> s));
            return fit;
        }

        int hoped(int i) {
            List<Integer> fit = sets();
            return i == NONE ? fit.size() : i >= 0 && i < fit.size() ? fit.get(i) : NONE;
        }

        int sure() {
            int in = -1;
            List<Integer> fit = sets();
            for (int set : fit) {
                in &= set;
            }
            return fit.isEmpty() ? 0 : in;
        }

        int look() {
            List<Integer> fit = sets();
            int best = NONE;
            int least = Integer.MAX_VALUE;
            for (int p = 0; p < persons.size(); p++) {
                int in = 0;
                for (int set : fit) {
                    in += set >> p & 1;
                }
                int most = Math.max(in, fit.size() - in);
                if (in > 0 && in < fit.size() && most < least) {
                    least = most;
                    best = p;
                }
            }
            return best;
        }

        int write(int p, int x) {
            if (!hasPerson(p) || !hasStation(x)) {
                return UNKNOWN;
            }
            if (book.size() == 20) {
                return FULL;
            }
            book.add(new int[] {p, x});
            return book.size();
        }

        int judge() {
            for (int i = 0; i < book.size(); i++) {
                if (persons.get(book.get(i)[0]).where != book.get(i)[1]) {
                    return i;
                }
            }
            return NONE;
        }

        int tear() {
            int had = ran.size() + book.size();
            ran.clear();
            book.clear();
            return had;
        }

        int seed(int v) {
            if (v < 0) {
                return OUTSIDE;
            }
            int was = seed;
            seed = v;
            return was;
        }

        int keep(int i) {
            if (i < 0 || i > 1) {
                return UNKNOWN;
            }
            images[i] = shot();
            past.clear();
            return 1;
        }

        int goBack(int i) {
            if (i < 0 || i > 1) {
                return UNKNOWN;
            }
            if (images[i] == null) {
                return NOT;
            }
            restore(images[i]);
            seed = images[i].seed;
            past.clear();
            return 1;
        }
    }
}
