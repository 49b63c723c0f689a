/** A railway line whose train stops only where it is not awaited. */
public final class SpiteLine {
    public static final int NONE = -1, UNKNOWN = -1000000001, OUTSIDE = -1000000002, NOT = -1000000003, FULL = -1000000004;

    private static final int MOST_LETTERS = 200, MOST_LETTER = 255, MOST_FIGURES = 3;
    private static final int LEAST_STATIONS = 2, MOST_STATIONS = 8, MOST_PERSONS = 8;
    private static final int LEAST_LIMIT = 1, MOST_LIMIT = 15, MOST_FOG = 9, MOST_MIEN = 9, MOST_TURN = 3;
    private static final int MET_BY_NOBODY = 9, NOBODY_BIT = 8;
    private static final int FAULT_PLACE = 1, FAULT_NUMBER = 2, FAULT_TOO_MANY = 3, FAULT_SAME = 4, FAULT_BASE = -10;
    private static final int FEET_SHOW = 2, FLOWERS_SHOW = 3;
    private static final int MOST_TRAINS_AT_ONCE = 20, MOST_TRAINS = 9000;
    private static final int MOST_UNDONE = 30, MOST_RAN = 8, MOST_ENTRIES = 20, MOST_IMAGES = 2;
    // 1 set of nobody, 8 of one person, 28 of two
    private static final int MOST_HOPED = 37;
    private static final int BILLION = 1000000000, HUNDRED = 100;
    private static final int MIEN_DRAWS = 10, FOG_DRAWS = 6;

    private final Text text = new Text();
    private final Reader reader = new Reader();
    private final Line line = new Line();
    private final Scene now = new Scene();
    private final Scene trial = new Scene();
    private final int[] trialMet = new int[MOST_PERSONS];
    private final Deeds deeds = new Deeds();
    private final Witness witness = new Witness();
    private final Book book = new Book();
    private final Draws draws = new Draws();
    private final Image[] images = new Image[MOST_IMAGES];
    private int faultAt = NONE;

    public SpiteLine() {
        for (int i = 0; i < MOST_IMAGES; i++) {
            images[i] = new Image();
        }
    }

    // ---- the line

    public int feed(int letter) {
        if (letter < 0 || letter > MOST_LETTER) {
            return OUTSIDE;
        }
        return text.add(letter) ? text.length : FULL;
    }

    public int line() {
        reader.read(text);
        text.length = 0;
        if (reader.kind != 0) {
            faultAt = reader.place;
            return FAULT_BASE - reader.kind;
        }
        faultAt = NONE;
        line.takeFrom(reader.line);
        now.takeFrom(reader.scene);
        deeds.count = 0;
        witness.count = 0;
        book.count = 0;
        for (int i = 0; i < MOST_IMAGES; i++) {
            images[i].kept = false;
        }
        return line.persons;
    }

    public int fault() {
        return faultAt;
    }

    public int told(int what) {
        switch (what) {
            case 0: return line.stations;
            case 1: return line.limit;
            case 2: return now.fog;
            case 3: return line.persons;
            case 4: return text.length;
            case 5: return now.trains;
            case 6: return now.stopped;
            case 7: return now.awaited(line, 0);
            case 8: return now.arrived(line);
            case 9: return witness.count;
            case 10: return book.count;
            case 11: return deeds.count;
            default: return OUTSIDE;
        }
    }

    public int person(int p, int what) {
        if (!line.hasPerson(p)) {
            return UNKNOWN;
        }
        switch (what) {
            case 0: return now.where[p];
            case 1: return line.wants[p];
            case 2: return line.met[p];
            case 3: return now.mien[p];
            case 4: return bit(now.feet, p);
            case 5: return bit(now.flowers, p);
            case 6: return now.shows(p, 0);
            case 7: return bit(now.arrived(line), p);
            default: return OUTSIDE;
        }
    }

    public int station(int x, int what) {
        if (!line.hasStation(x)) {
            return UNKNOWN;
        }
        switch (what) {
            case 0: return now.standing(line, x);
            case 1: return now.mostShown(line, x);
            default: return OUTSIDE;
        }
    }

    // ---- deeds

    public int mien(int p, int v) {
        if (!line.hasPerson(p)) {
            return UNKNOWN;
        }
        if (v < 0 || v > MOST_MIEN) {
            return OUTSIDE;
        }
        deeds.note(now);
        int was = now.mien[p];
        now.mien[p] = v;
        return was;
    }

    public int feet(int p, boolean is) {
        if (!line.hasPerson(p)) {
            return UNKNOWN;
        }
        deeds.note(now);
        int was = bit(now.feet, p);
        now.feet = withBit(now.feet, p, is);
        return was;
    }

    public int flowers(int p, boolean is) {
        if (!line.hasPerson(p)) {
            return UNKNOWN;
        }
        deeds.note(now);
        int was = bit(now.flowers, p);
        now.flowers = withBit(now.flowers, p, is);
        return was;
    }

    public int walk(int p, int x) {
        if (!line.hasPerson(p) || !line.hasStation(x)) {
            return UNKNOWN;
        }
        deeds.note(now);
        int was = now.where[p];
        now.where[p] = x;
        return Math.abs(x - was);
    }

    public int fog(int v) {
        if (v < 0 || v > MOST_FOG) {
            return OUTSIDE;
        }
        if (!line.isTold()) {
            return NOT;
        }
        deeds.note(now);
        int was = now.fog;
        now.fog = v;
        return was;
    }

    public int train(int n) {
        int refusal = trainsRefused(n);
        if (refusal != 0) {
            return refusal;
        }
        for (int k = 0; k < n; k++) {
            deeds.note(now);
            now.runTrain(line, line.met, 0);
        }
        return now.arrived(line);
    }

    public int drift(int n) {
        int refusal = trainsRefused(n);
        if (refusal != 0) {
            return refusal;
        }
        for (int k = 0; k < n; k++) {
            deeds.note(now);
            drawDay();
            now.runTrain(line, line.met, 0);
        }
        return now.arrived(line);
    }

    public int undo(int n) {
        if (n < 1 || n > MOST_UNDONE) {
            return OUTSIDE;
        }
        return deeds.takeBack(n, now) ? now.trains : NOT;
    }

    // ---- tried

    public int stops() {
        return now.stopsOfNext(line, 0);
    }

    public int calm(int set) {
        if ((set & ~line.allStations()) != 0) {
            return UNKNOWN;
        }
        int tooMuch = 0;
        for (int p = 0; p < line.persons; p++) {
            if (bit(set, now.where[p]) == 1) {
                tooMuch += Math.max(0, now.shows(p, 0) - now.alarm(line) + 1);
            }
        }
        return tooMuch;
    }

    public int journey(int p) {
        if (!line.hasPerson(p)) {
            return UNKNOWN;
        }
        trial.takeFrom(now);
        for (int trains = 0; trains <= MOST_TRAINS_AT_ONCE; trains++) {
            if (trial.hasArrived(line, p)) {
                return trains;
            }
            trial.runTrain(line, line.met, 0);
        }
        return NONE;
    }

    public int never(int n) {
        if (n < 0 || n > MOST_TRAINS_AT_ONCE) {
            return OUTSIDE;
        }
        trial.takeFrom(now);
        int left = line.allStations();
        for (int k = 0; k < n; k++) {
            trial.runTrain(line, line.met, 0);
            left &= ~trial.stopped;
        }
        return left;
    }

    public int cut(int p) {
        if (!line.hasPerson(p)) {
            return UNKNOWN;
        }
        if (now.hasArrived(line, p)) {
            return NONE;
        }
        if (!arrivesThough(p, 0)) {
            return 0;
        }
        // One station is always enough: he boards nowhere but where he stands.
        for (int x = 0; x < line.stations; x++) {
            if (!arrivesThough(p, 1 << x)) {
                return 1 << x;
            }
        }
        return NONE;
    }

    public int aunts(int p, int x) {
        if (!line.hasPerson(p) || !line.hasStation(x)) {
            return UNKNOWN;
        }
        int set = 0;
        for (int aunt = 0; aunt < line.persons; aunt++) {
            if (aunt != p && endsAt(p, aunt) == x) {
                set |= 1 << aunt;
            }
        }
        if (endsAt(p, NONE) == x) {
            set |= 1 << NOBODY_BIT;
        }
        return set;
    }

    public int chance(int x, int q) {
        if (!line.hasStation(x)) {
            return UNKNOWN;
        }
        if (q < 0 || q > HUNDRED) {
            return OUTSIDE;
        }
        long odds = BILLION;
        for (int p = 0; p < line.persons; p++) {
            if (now.where[p] == x) {
                int taken = Math.min(HUNDRED, q * now.shows(p, 0));
                odds = odds * (HUNDRED - taken) / HUNDRED;
            }
        }
        return (int) odds;
    }

    // ---- what ran

    public int ran(int x, boolean stops) {
        if (!line.hasStation(x)) {
            return UNKNOWN;
        }
        return witness.add(x, stops) ? witness.count : FULL;
    }

    public int hoped(int i) {
        int found = witness.find(line, now);
        if (i == NONE) {
            return found;
        }
        return i >= 0 && i < found ? witness.sets[i] : NONE;
    }

    public int sure() {
        int found = witness.find(line, now);
        if (found == 0) {
            return 0;
        }
        int inAll = line.allPersons();
        for (int i = 0; i < found; i++) {
            inAll &= witness.sets[i];
        }
        return inAll;
    }

    public int look() {
        int found = witness.find(line, now);
        int best = NONE;
        int leastPart = found;
        for (int p = 0; p < line.persons; p++) {
            int part = witness.greatestPart(p);
            if (part < leastPart) {
                leastPart = part;
                best = p;
            }
        }
        return best;
    }

    public int write(int p, int x) {
        if (!line.hasPerson(p) || !line.hasStation(x)) {
            return UNKNOWN;
        }
        return book.add(p, x) ? book.count : FULL;
    }

    public int judge() {
        return book.firstWrong(now);
    }

    public int tear() {
        int had = witness.count + book.count;
        witness.count = 0;
        book.count = 0;
        return had;
    }

    // ---- images

    public int seed(int v) {
        if (v < 0) {
            return OUTSIDE;
        }
        int was = draws.state;
        draws.state = v;
        return was;
    }

    public int keep(int i) {
        if (i < 0 || i >= MOST_IMAGES) {
            return UNKNOWN;
        }
        images[i].scene.takeFrom(now);
        images[i].seedThen = draws.state;
        images[i].kept = true;
        deeds.count = 0;
        return 1;
    }

    public int goBack(int i) {
        if (i < 0 || i >= MOST_IMAGES) {
            return UNKNOWN;
        }
        if (!images[i].kept) {
            return NOT;
        }
        now.takeFrom(images[i].scene);
        draws.state = images[i].seedThen;
        deeds.count = 0;
        return 1;
    }

    // ---- helpers

    private static int bit(int set, int k) {
        return (set >> k) & 1;
    }

    private static int withBit(int set, int k, boolean is) {
        return is ? set | (1 << k) : set & ~(1 << k);
    }

    /** The refusal of n trains, 0 without one. */
    private int trainsRefused(int n) {
        if (n < 1 || n > MOST_TRAINS_AT_ONCE) {
            return OUTSIDE;
        }
        if (!line.isTold()) {
            return NOT;
        }
        return now.trains > MOST_TRAINS ? FULL : 0;
    }

    private void drawDay() {
        if (line.persons > 0) {
            int p = draws.next(line.persons);
            int face = draws.next(MIEN_DRAWS);
            if (line.hasPerson(p)) {
                now.mien[p] = face;
            }
        }
        now.fog = draws.next(FOG_DRAWS);
    }

    /** Has he arrived behind the next train, though others await it at these stations? */
    private boolean arrivesThough(int p, int shut) {
        trial.takeFrom(now);
        trial.runTrain(line, line.met, shut);
        return trial.hasArrived(line, p);
    }

    /** Where he stands behind the next train, if this one met him. */
    private int endsAt(int p, int aunt) {
        System.arraycopy(line.met, 0, trialMet, 0, MOST_PERSONS);
        trialMet[p] = aunt;
        trial.takeFrom(now);
        trial.runTrain(line, trialMet, 0);
        return trial.where[p];
    }

    /** The letters told so far. */
    private static final class Text {
        final int[] letters = new int[MOST_LETTERS];
        int length = 0;

        boolean add(int letter) {
            if (length < 0 || length >= MOST_LETTERS) {
                return false;
            }
            letters[length] = letter;
            length++;
            return true;
        }

        /** NONE at the end: no word, figure or sign, so the end is a fault wherever one of these is due. */
        int letterAt(int i) {
            return i >= 0 && i < length && i < MOST_LETTERS ? letters[i] : NONE;
        }
    }

    /** Reads a text into a line and its first scene, up to the first fault. */
    private static final class Reader {
        final Line line = new Line();
        final Scene scene = new Scene();
        int kind = 0;
        int place = NONE;
        private int at = 0;
        private int numberAt = 0;

        void read(Text text) {
            line.clear();
            scene.clear();
            kind = 0;
            place = NONE;
            at = 0;
            skipBlanks(text);
            // each clause without a fault takes at least one letter
            for (int k = 0; k <= MOST_LETTERS && kind == 0 && at < text.length; k++) {
                readClause(text);
                skipBlanks(text);
            }
        }

        private void readClause(Text text) {
            int word = text.letterAt(at);
            boolean again = word == 's' && line.isTold();
            boolean ninth = word == 'p' && line.persons >= MOST_PERSONS;
            if (again || ninth) {
                blame(FAULT_TOO_MANY, at);
            } else if (word == 's') {
                at++;
                readStations(text);
            } else if (word == 'p' && line.isTold()) {
                at++;
                readPerson(text);
            } else {
                blame(FAULT_PLACE, at);
            }
        }

        private void readStations(Text text) {
            int stations = readNumber(text, LEAST_STATIONS, MOST_STATIONS);
            int limit = readNumber(text, LEAST_LIMIT, MOST_LIMIT);
            int fogThere = readNumber(text, 0, MOST_FOG);
            readEnd(text);
            if (kind == 0) {
                line.stations = stations;
                line.limit = limit;
                scene.fog = fogThere;
            }
        }

        private void readPerson(Text text) {
            int stands = readNumber(text, 0, line.stations - 1);
            int wants = readNumber(text, 0, line.stations - 1);
            if (wants == stands) {
                blame(FAULT_SAME, numberAt);
            }
            int met = readNumber(text, 0, MET_BY_NOBODY);
            if (met != MET_BY_NOBODY && met >= line.persons) {
                blame(FAULT_NUMBER, numberAt);
            }
            int face = readNumber(text, 0, MOST_MIEN);
            int turn = readNumber(text, 0, MOST_TURN);
            readEnd(text);
            int p = line.persons;
            if (kind == 0 && p < MOST_PERSONS) {
                line.wants[p] = wants;
                line.met[p] = met == MET_BY_NOBODY ? NONE : met;
                scene.where[p] = stands;
                scene.mien[p] = face;
                scene.feet = withBit(scene.feet, p, bit(turn, 0) == 1);
                scene.flowers = withBit(scene.flowers, p, bit(turn, 1) == 1);
                line.persons = p + 1;
            }
        }

        /** The number due here; without meaning behind a fault. */
        private int readNumber(Text text, int least, int most) {
            skipBlanks(text);
            if (!isFigure(text.letterAt(at))) {
                blame(FAULT_PLACE, at);
                return 0;
            }
            numberAt = at;
            int value = 0;
            int figures = 0;
            while (at < text.length && isFigure(text.letterAt(at))) {
                figures++;
                if (figures <= MOST_FIGURES) {
                    value = value * 10 + text.letterAt(at) - '0';
                }
                at++;
            }
            if (figures > MOST_FIGURES || value < least || value > most) {
                blame(FAULT_NUMBER, numberAt);
            }
            return value;
        }

        private void readEnd(Text text) {
            skipBlanks(text);
            if (text.letterAt(at) == ';') {
                at++;
            } else {
                blame(FAULT_PLACE, at);
            }
        }

        private void skipBlanks(Text text) {
            while (at < text.length && text.letterAt(at) == ' ') {
                at++;
            }
        }

        /** Only the first fault counts. */
        private void blame(int faultKind, int where) {
            if (kind == 0) {
                kind = faultKind;
                place = where;
            }
        }

        private static boolean isFigure(int letter) {
            return letter >= '0' && letter <= '9';
        }
    }

    /** What stays as it was told: stations, the guard's limit, who wants where and is met by whom. */
    private static final class Line {
        int stations = 0;
        int limit = 0;
        int persons = 0;
        final int[] wants = new int[MOST_PERSONS];
        final int[] met = new int[MOST_PERSONS];

        void clear() {
            stations = 0;
            limit = 0;
            persons = 0;
        }

        void takeFrom(Line other) {
            stations = other.stations;
            limit = other.limit;
            persons = other.persons;
            System.arraycopy(other.wants, 0, wants, 0, MOST_PERSONS);
            System.arraycopy(other.met, 0, met, 0, MOST_PERSONS);
        }

        boolean isTold() {
            return stations > 0;
        }

        boolean hasStation(int x) {
            return x >= 0 && x < stations;
        }

        boolean hasPerson(int p) {
            return p >= 0 && p < persons && p < MOST_PERSONS;
        }

        int allStations() {
            return (1 << stations) - 1;
        }

        int allPersons() {
            return (1 << persons) - 1;
        }
    }

    /** What deeds and trains change, and so what is undone and kept in images. */
    private static final class Scene {
        /** NONE while he is on board. */
        final int[] where = new int[MOST_PERSONS];
        final int[] mien = new int[MOST_PERSONS];
        int feet = 0;
        int flowers = 0;
        int fog = 0;
        int trains = 0;
        int stopped = 0;

        void clear() {
            feet = 0;
            flowers = 0;
            fog = 0;
            trains = 0;
            stopped = 0;
        }

        void takeFrom(Scene other) {
            System.arraycopy(other.where, 0, where, 0, MOST_PERSONS);
            System.arraycopy(other.mien, 0, mien, 0, MOST_PERSONS);
            feet = other.feet;
            flowers = other.flowers;
            fog = other.fog;
            trains = other.trains;
            stopped = other.stopped;
        }

        /** How much shows of him, if those who hope had the utmost mien. */
        int shows(int p, int hopeful) {
            int face = bit(hopeful, p) == 1 ? MOST_MIEN : mien[p];
            return face + FEET_SHOW * bit(feet, p) + FLOWERS_SHOW * bit(flowers, p);
        }

        /** From how much on the guard takes one to wait. */
        int alarm(Line line) {
            return line.limit + fog;
        }

        int awaited(Line line, int hopeful) {
            int set = 0;
            for (int p = 0; p < line.persons; p++) {
                if (shows(p, hopeful) >= alarm(line)) {
                    set |= 1 << where[p];
                }
            }
            return set;
        }

        /** Nobody gets to a station ahead of the train, so it stops where it is not awaited now. */
        int stopsOfNext(Line line, int hopeful) {
            return line.allStations() & ~awaited(line, hopeful);
        }

        int standing(Line line, int x) {
            int set = 0;
            for (int p = 0; p < line.persons; p++) {
                if (where[p] == x) {
                    set |= 1 << p;
                }
            }
            return set;
        }

        int mostShown(Line line, int x) {
            int most = 0;
            for (int p = 0; p < line.persons; p++) {
                if (where[p] == x) {
                    most = Math.max(most, shows(p, 0));
                }
            }
            return most;
        }

        boolean hasArrived(Line line, int p) {
            return where[p] == line.wants[p];
        }

        int arrived(Line line) {
            int set = 0;
            for (int p = 0; p < line.persons; p++) {
                if (hasArrived(line, p)) {
                    set |= 1 << p;
                }
            }
            return set;
        }

        /** One train, met by these, with shut stations awaited by others too. */
        void runTrain(Line line, int[] met, int shut) {
            int halts = stopsOfNext(line, 0) & ~shut;
            for (int x = 0; x < line.stations; x++) {
                if (bit(halts, x) == 1) {
                    letOut(line, met, x);
                    takeIn(line, x);
                }
            }
            emptyAtLast(line);
            stopped = halts;
            trains++;
        }

        private void letOut(Line line, int[] met, int x) {
            for (int p = 0; p < line.persons; p++) {
                if (where[p] == NONE && line.wants[p] == x) {
                    int aunt = met[p];
                    boolean isMet = line.hasPerson(aunt) && where[aunt] == x;
                    if (!isMet) {
                        where[p] = x;
                    }
                }
            }
        }

        private void takeIn(Line line, int x) {
            for (int p = 0; p < line.persons; p++) {
                if (where[p] == x && line.wants[p] > x) {
                    where[p] = NONE;
                }
            }
        }

        private void emptyAtLast(Line line) {
            for (int p = 0; p < line.persons; p++) {
                if (where[p] == NONE) {
                    where[p] = line.stations - 1;
                }
            }
        }
    }

    /** The scenes ahead of the latest deeds, in a ring. */
    private static final class Deeds {
        final Scene[] scenes = new Scene[MOST_UNDONE];
        int first = 0;
        int count = 0;

        Deeds() {
            for (int i = 0; i < MOST_UNDONE; i++) {
                scenes[i] = new Scene();
            }
        }

        void note(Scene scene) {
            scenes[(first + count) % MOST_UNDONE].takeFrom(scene);
            if (count < MOST_UNDONE) {
                count++;
            } else {
                first = (first + 1) % MOST_UNDONE;
            }
        }

        boolean takeBack(int n, Scene scene) {
            if (n < 1 || n > count) {
                return false;
            }
            count -= n;
            scene.takeFrom(scenes[(first + count) % MOST_UNDONE]);
            return true;
        }
    }

    /** Where the next train is said to stop or run through, and who may hope by that. */
    private static final class Witness {
        final int[] stations = new int[MOST_RAN];
        final boolean[] halts = new boolean[MOST_RAN];
        int count = 0;
        final int[] sets = new int[MOST_HOPED];
        int found = 0;

        boolean add(int x, boolean halt) {
            if (count < 0 || count >= MOST_RAN) {
                return false;
            }
            stations[count] = x;
            halts[count] = halt;
            count++;
            return true;
        }

        /** Finds the sets that fit, fewest first, then rising: how many. */
        int find(Line line, Scene scene) {
            found = 0;
            tryHopeful(line, scene, 0);
            for (int p = 0; p < line.persons; p++) {
                tryHopeful(line, scene, 1 << p);
            }
            // rising, as the greater person of two weighs more than all lesser ones
            for (int p = 1; p < line.persons; p++) {
                for (int lesser = 0; lesser < p; lesser++) {
                    tryHopeful(line, scene, (1 << p) | (1 << lesser));
                }
            }
            return found;
        }

        private void tryHopeful(Line line, Scene scene, int hopeful) {
            if (found < MOST_HOPED && fits(scene.stopsOfNext(line, hopeful))) {
                sets[found] = hopeful;
                found++;
            }
        }

        private boolean fits(int stops) {
            for (int i = 0; i < count; i++) {
                if ((bit(stops, stations[i]) == 1) != halts[i]) {
                    return false;
                }
            }
            return true;
        }

        /** The greater part of the sets found, of those with him and those without. */
        int greatestPart(int p) {
            int with = 0;
            for (int i = 0; i < found; i++) {
                with += bit(sets[i], p);
            }
            return Math.max(with, found - with);
        }
    }

    /** Entries of where persons are said to stand. */
    private static final class Book {
        final int[] who = new int[MOST_ENTRIES];
        final int[] stands = new int[MOST_ENTRIES];
        int count = 0;

        boolean add(int p, int x) {
            if (count < 0 || count >= MOST_ENTRIES) {
                return false;
            }
            who[count] = p;
            stands[count] = x;
            count++;
            return true;
        }

        int firstWrong(Scene scene) {
            for (int i = 0; i < count; i++) {
                if (scene.where[who[i]] != stands[i]) {
                    return i;
                }
            }
            return NONE;
        }
    }

    private static final class Draws {
        int state = 0;

        int next(int n) {
            state = (int) ((state * 1103515245L + 12345L) & 0x7fffffffL);
            return n > 0 ? (state / 65536) % n : 0;
        }
    }

    private static final class Image {
        final Scene scene = new Scene();
        int seedThen = 0;
        boolean kept = false;
    }
}
