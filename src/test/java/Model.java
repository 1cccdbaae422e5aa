import java.util.ArrayList;
import java.util.HashMap;
import java.util.Iterator;
import java.util.List;
import java.util.Map;

/**
 * The document once more, written down part by part with lists and maps, without a thought of the class itself:
 * ModelTest drives both by the same calls and compares all that can be seen.
 */
final class Model {
    static final class Cmd {
        int kind;
        int[] n = new int[6];

        Cmd(int kind, int... n) {
            this.kind = kind;
            this.n = java.util.Arrays.copyOf(n, 6);
        }
    }

    static final class Queued {
        Cmd c;
        int order;
        char from;
        Proc waiter;
    }

    static final class Entry {
        int tick;
        int group;
        Cmd c;
    }

    static final class Report {
        int number;
        int tick;
        int sort;
        int a;
        int b;
        int[] values;
    }

    static final class Proc {
        List<int[]> rows = new ArrayList<>();
        int[] registers = new int[4];
        char how = '-';
        int row;
        int ticks;
        int limit;
        int end = -1;
        int here;
        Queued waits;
    }

    static final class Monitor {
        int kind;
        int parameter;
        int z;
        int u;
        int v;
        int w;
        boolean on;
        int count;
        Integer ahead;
    }

    static final class Store {
        List<Report> reports = new ArrayList<>();
        boolean ring = true;
        boolean[] takes = new boolean[6];
    }

    static final class Unit {
        boolean on;
        boolean bad;
        int misses;
        int still;
        char truth = 'g';
        Integer last;
    }

    static final class Image {
        boolean whole = true;
        boolean begun;
        int sum;
    }

    static final class File {
        Map<Integer, int[]> parts = new HashMap<>();
        boolean whole;
    }

    static final class Flight {
        int at;
        boolean bent;
        int sentBy;
        boolean isSecond;
        // up
        char sort;
        int number;
        int turn;
        int order;
        boolean sets;
        // down
        int next;
        boolean locked;
        boolean wait;
        boolean again;
        Report report;
    }

    static final class Way {
        int delay = 2;
        int[] four = new int[4];
        List<Flight> flights = new ArrayList<>();
    }

    static final class Sent {
        int number;
        int order;
        boolean marked;
    }

    int t;
    int sun = 60;
    int pass = 16;
    int z = 1;
    Way up = new Way();
    Way down = new Way();

    // Part 3.
    int next;
    int turnOnBoard;
    boolean locked;
    boolean wait;
    boolean again;
    List<Cmd> orders = new ArrayList<>();
    List<Integer> ends = new ArrayList<>();
    List<Integer> inOrder = new ArrayList<>();
    List<Integer> fast = new ArrayList<>();
    List<Sent> sent = new ArrayList<>();
    int send;
    int turn;
    int tries;
    int timer;
    int window = 5;
    int time = 20;
    int limit = 3;
    char state = 'a';
    char stateAhead = 'a';
    boolean controlMarked;
    boolean controlSets;
    int controlNumber;
    boolean waitTold;
    int lastAgain = -99;
    int lastInOrder = -99;
    int framesUp;
    int framesDown;
    int framesBent;
    List<Report> kept = new ArrayList<>();

    // Parts 4 to 8.
    List<Queued> queue = new ArrayList<>();
    int lost;
    Cmd[] templates = new Cmd[12];
    List<Entry> entries = new ArrayList<>();
    boolean scheduleOn;
    boolean[] groupOn = {true, true, true, true};
    boolean[] told = new boolean[16];
    int[] action = new int[16];
    boolean acting;
    int made;
    int dropped;
    List<Report> atOnce = new ArrayList<>();
    List<Report> played = new ArrayList<>();
    Store[] stores = {new Store(), new Store(), new Store()};
    Proc[] procs = {new Proc(), new Proc(), new Proc(), new Proc()};
    List<List<Integer>> structures = new ArrayList<>();
    int[] every = new int[3];
    Monitor[] monitors = new Monitor[6];

    // Part 9.
    boolean[][][] bank = new boolean[4][64][13];
    Image[] images = {null, null, new Image(), new Image()};
    int nextImage = 2;
    int from = 2;
    int mended;
    int notMended;
    File[] files = {new File(), new File(), new File()};
    char board = 'r';
    int resetting;
    int hanging;
    List<Integer> resets = new ArrayList<>();

    // Parts 10 and 11.
    Unit[] units = new Unit[15];
    int angle = 20;
    int rate;
    int battery = 800;
    int warmth = 10;
    int measuredAngle;
    int measuredRate;
    Integer angleNow;
    Integer rateNow;
    int turnedAt = -9;
    int mode = 1;
    int safeSince;
    boolean[] level = {false, true, true, true};

    Model() {
        for (int i = 0; i < 12; i++) {
            templates[i] = new Cmd(0);
        }
        for (int i = 0; i < 16; i++) {
            told[i] = true;
            action[i] = -1;
        }
        for (int i = 0; i < 3; i++) {
            structures.add(new ArrayList<>());
        }
        for (int i = 0; i < 6; i++) {
            monitors[i] = new Monitor();
        }
        stores[0].takes[0] = stores[0].takes[1] = stores[1].takes[2] = true;
        stores[2].takes[3] = stores[2].takes[4] = stores[2].takes[5] = true;
        for (int i = 0; i < 15; i++) {
            units[i] = new Unit();
        }
        for (int i : new int[] {0, 1, 2, 4, 6, 10, 11, 12}) {
            units[i].on = true;
        }
        int[] first = {40, 25, 3, 50, 20, 4, 95, 105};
        for (int b : new int[] {0, 2, 3}) {
            for (int i = 0; i < 8; i++) {
                put(b, i, first[i]);
            }
        }
        put(2, 8, 1);
        put(3, 8, 2);
        for (int i = 2; i < 4; i++) {
            images[i].sum = d(bytes(i, 0, 63));
        }
    }

    // Part 1.

    boolean isSun() {
        return t % 96 < sun;
    }

    boolean isPass() {
        return t % 48 < pass;
    }

    int draw(int n) {
        z = (int) ((25173L * z + 13849) % 65536);
        return z / 16 % n;
    }

    static int d(List<Integer> numbers) {
        long h = 7;
        for (int number : numbers) {
            h = (257 * h + number) % 65521;
        }
        return (int) h;
    }

    void tick() {
        t++;
        for (Flight f : arriving(up)) {
            if (!f.bent) {
                arriveUp(f);
            }
        }
        around();
        onBoard();
        if (board == 'r' || board == 'k') {
            frameDown();
        }
        for (Flight f : arriving(down)) {
            arriveDown(f);
        }
        timer();
        if (isPass()) {
            frameUp();
        }
    }

    // Part 2.

    void send(Way way, Flight f) {
        f.sentBy = t;
        if (!isPass()) {
            return;
        }
        if (draw(10) < way.four[0]) {
            return;
        }
        f.at = t + way.delay;
        if (draw(10) < way.four[1]) {
            f.at += 1 + draw(5);
        }
        Flight second = null;
        if (draw(10) < way.four[2]) {
            second = new Flight();
            second.at = f.at + 1 + draw(5);
        }
        if (draw(10) < way.four[3]) {
            f.bent = true;
        }
        way.flights.add(f);
        if (second != null) {
            second.isSecond = true;
            second.bent = f.bent;
            second.sentBy = t;
            second.sort = f.sort;
            second.number = f.number;
            second.turn = f.turn;
            second.order = f.order;
            second.sets = f.sets;
            second.next = f.next;
            second.locked = f.locked;
            second.wait = f.wait;
            second.again = f.again;
            second.report = f.report;
            way.flights.add(second);
        }
    }

    List<Flight> arriving(Way way) {
        List<Flight> come = new ArrayList<>();
        for (Iterator<Flight> i = way.flights.iterator(); i.hasNext();) {
            Flight f = i.next();
            if (f.at == t) {
                come.add(f);
                i.remove();
            }
        }
        return come;
    }

    // Part 3.

    boolean takes() {
        return queue.size() < 8 && (board == 'r' || board == 'k');
    }

    void come(int order) {
        Queued q = new Queued();
        q.c = orders.get(order);
        q.order = order;
        q.from = 'g';
        queue.add(q);
        ends.set(order, -2);
    }

    void arriveUp(Flight f) {
        if (units[0].truth == 'd' && units[1].truth == 'd') {
            return;
        }
        if (f.sort == 'c') {
            int ahead = ((f.turn - turnOnBoard) % 256 + 256) % 256;
            if (ahead >= 1 && ahead <= 100) {
                turnOnBoard = f.turn;
                locked = wait = again = false;
                if (f.sets) {
                    next = f.number;
                }
            }
        } else if (f.sort == 'f') {
            if (takes()) {
                come(f.order);
            }
        } else if (!locked) {
            int ahead = ((f.number - next) % 64 + 64) % 64;
            if (ahead == 0) {
                if (takes()) {
                    come(f.order);
                    next = (next + 1) % 64;
                    wait = again = false;
                } else {
                    wait = again = true;
                }
            } else if (ahead <= 15) {
                again = true;
            } else if (ahead < 48) {
                locked = true;
            }
        }
    }

    void frameUp() {
        Flight f = new Flight();
        if (state == 'c' && controlMarked) {
            controlMarked = false;
            f.sort = 'c';
            f.turn = turn;
            f.sets = controlSets;
            f.number = controlNumber;
            timer = time;
        } else if (!fast.isEmpty()) {
            f.sort = 'f';
            f.order = fast.remove(0);
        } else if (state == 'a') {
            Sent s = null;
            for (Sent one : sent) {
                if (one.marked && s == null) {
                    s = one;
                }
            }
            if (s == null) {
                if (waitTold || sent.size() >= window || inOrder.isEmpty()) {
                    return;
                }
                s = new Sent();
                s.number = send;
                s.order = inOrder.remove(0);
                send = (send + 1) % 64;
                sent.add(s);
            }
            s.marked = false;
            f.sort = 'o';
            f.number = s.number;
            f.order = s.order;
            timer = time;
            lastInOrder = t;
        } else {
            return;
        }
        framesUp++;
        send(up, f);
    }

    boolean anyMarked() {
        for (Sent s : sent) {
            if (s.marked) {
                return true;
            }
        }
        return false;
    }

    void markAll() {
        for (Sent s : sent) {
            s.marked = true;
        }
    }

    void timer() {
        if (state != 'c' && (state != 'a' || sent.isEmpty())) {
            return;
        }
        if (timer > 0) {
            timer--;
        }
        if (timer == 0 && !(state == 'c' ? controlMarked : anyMarked())) {
            tries++;
            if (tries > limit) {
                stateAhead = state;
                state = 's';
            } else if (state == 'c') {
                controlMarked = true;
            } else {
                markAll();
            }
        }
    }

    void arriveDown(Flight f) {
        if (f.bent) {
            framesBent++;
            return;
        }
        framesDown++;
        word(f);
        if (f.report != null) {
            for (Report r : kept) {
                if (r.number == f.report.number) {
                    return;
                }
            }
            kept.add(f.report);
            if (kept.size() > 200) {
                kept.remove(0);
            }
        }
    }

    void word(Flight f) {
        if (f.turn != turn) {
            return;
        }
        if (state == 'c') {
            state = 'a';
            tries = 0;
            markAll();
        }
        if (state != 'a') {
            return;
        }
        int k = sent.isEmpty() ? 0 : (f.next - sent.get(0).number + 64) % 64;
        if (k > sent.size()) {
            return;
        }
        for (int i = 0; i < k; i++) {
            sent.remove(0);
        }
        if (k > 0) {
            tries = 0;
            timer = time;
        }
        waitTold = f.wait;
        if (f.locked) {
            state = 'l';
        } else if (f.again && !f.wait && !anyMarked() && lastAgain < t - 10 && !sent.isEmpty()) {
            markAll();
            lastAgain = t;
        }
    }

    // Part 4.

    Queued push(Cmd c, char source) {
        if (queue.size() == 8) {
            lost++;
            return null;
        }
        Queued q = new Queued();
        q.c = c;
        q.order = -1;
        q.from = source;
        queue.add(q);
        return q;
    }

    void ended(Queued q, int code) {
        if (q.order >= 0) {
            boolean isLater = false;
            for (Queued other : queue) {
                isLater |= other.order == q.order;
            }
            if (!isLater) {
                ends.set(q.order, code);
            }
        }
    }

    void command() {
        if (queue.isEmpty()) {
            return;
        }
        Queued q = queue.remove(0);
        int kind = q.c.kind;
        int code;
        if (kind < 0 || kind > 43) {
            code = 1;
        } else if (!inRange(kind, q.c.n)) {
            code = 2;
        } else if (notLet(kind, q.c.n)) {
            code = 3;
        } else {
            code = perform(kind, q.c.n[0], q.c.n[1], q.c.n[2], q.c.n[3], q.c.n[4], q.c.n[5]) ? 0 : 4;
        }
        ended(q, code);
        if (q.waiter != null && q.waiter.waits == q) {
            q.waiter.waits = null;
            q.waiter.registers[3] = code;
            q.waiter.row++;
            q.waiter.here = 0;
        }
        report(0, code, q.order);
        if (code != 0) {
            event(0, kind < 0 || kind > 43 ? 44 : kind);
        }
        if (kind == 37 && code == 0) {
            reset();
        }
    }

    static boolean in(int number, int least, int most) {
        return least <= number && number <= most;
    }

    boolean inRange(int kind, int[] n) {
        int x = n[0];
        int y = n[1];
        int zz = n[2];
        int[][] xs = {null, {2, 14}, {2, 14}, {0, 2}, {0, 11}, {0, 11}, {0, 11}, {0, 1}, {0, 3}, {0, 3}, {0, 3},
            {0, 15}, {0, 15}, {0, 1}, {0, 3}, {0, 3}, {0, 3}, {0, 3}, {0, 3}, {0, 2}, {0, 2}, {0, 5}, {0, 5}, {0, 5},
            {0, 5}, {0, 2}, {0, 2}, {0, 2}, null, {0, 2}, {0, 1}, {0, 3}, {0, 3}, {2, 3}, {2, 3}, {2, 3}, {2, 3},
            null, {0, 2}, {0, 2}, {0, 2}, {1, 3}, null, {0, 2}};
        int[][] ys = {null, {0, 1}, {0, 1}, null, {0, 43}, null, {0, 9999}, null, {0, 1}, null, {-200, 200},
            {0, 1}, {-1, 11}, null, {0, 11}, {1, 400}, {0, 1}, null, null, {-1, 23}, {0, 100}, {0, 23}, {0, 23},
            {0, 23}, {0, 1}, {0, 5}, {0, 1}, null, null, null, {0, 63}, {0, 63}, {0, 63}, null, {0, 60}, null, null,
            null, {0, 15}, {1, 16}, null, {0, 1}, null, {0, 15}};
        if (xs[kind] != null && !in(x, xs[kind][0], xs[kind][1])) {
            return false;
        }
        if (ys[kind] != null && !in(y, ys[kind][0], ys[kind][1])) {
            return false;
        }
        switch (kind) {
            case 6: return in(zz, 0, 3);
            case 14: return in(zz, 0, 9);
            case 21: case 22: return in(n[4], 1, 9) && in(n[5], 0, 15);
            case 23: return zz >= 0 && in(n[4], 1, 9) && in(n[5], 0, 15);
            case 25: return in(zz, 0, 1);
            case 30: return in(zz, 0, 255);
            case 31: return in(zz, 1, 6) && y + zz <= 64;
            case 32: return in(zz, 0, 63) && zz >= y;
            case 34: return in(zz, 0, 255) && in(n[3], 0, 255) && in(n[4], 0, 255) && in(n[5], 0, 255);
            default: return true;
        }
    }

    boolean notLet(int kind, int[] n) {
        if (board == 'k' && kind != 0 && !in(kind, 33, 37)) {
            return true;
        }
        if (mode != 0) {
            return false;
        }
        return kind == 6 || kind == 15 || (kind == 7 || kind == 13) && n[0] == 1 || kind == 16 && n[1] == 0
                || kind == 1 && n[0] == 14 && n[1] == 1;
    }

    boolean perform(int kind, int x, int y, int zz, int u, int v, int w) {
        if (kind >= 14 && kind <= 18) {
            return performProcedure(kind, x, y, zz, new int[] {zz, u, v, w});
        }
        if (kind >= 19 && kind <= 29) {
            return performReports(kind, x, y, zz, u, v, w);
        }
        if (kind >= 30) {
            return performMemory(kind, x, y, zz, u, v, w);
        }
        switch (kind) {
            case 1:
                if (y == 1 && units[x].bad) {
                    return false;
                }
                if (y == 1) {
                    on(x);
                } else {
                    units[x].on = false;
                }
                return true;
            case 2:
                if (y == 0) {
                    units[x].bad = false;
                    units[x].misses = units[x].still = 0;
                } else {
                    units[x].bad = true;
                    units[x].on = false;
                }
                return true;
            case 3:
                if (x == 0) {
                    if (mode != 0) {
                        safe(0);
                    }
                    return true;
                }
                if (mode == 0) {
                    if (t - safeSince < c(4) || battery < 10 * c(3) || why(false) != 0) {
                        return false;
                    }
                    mode = x;
                    event(3, x);
                }
                mode = x;
                return true;
            case 4:
                templates[x] = new Cmd(y, zz, u, v, w, 0, 0);
                return true;
            case 5:
                int[] n = templates[x].n.clone();
                n[4] = y;
                n[5] = zz;
                templates[x] = new Cmd(templates[x].kind, n);
                return true;
            case 6:
                if (y <= t || entries.size() == 16) {
                    return false;
                }
                Entry e = new Entry();
                e.tick = y;
                e.group = zz;
                e.c = templates[x];
                entries.add(e);
                return true;
            case 7: scheduleOn = x == 1; return true;
            case 8: groupOn[x] = y == 1; return true;
            case 9: entries.removeIf(one -> one.group == x && in(one.tick, y, zz)); return true;
            case 10:
                for (Entry one : entries) {
                    if (one.group == x && one.tick + y <= t) {
                        return false;
                    }
                }
                for (Entry one : entries) {
                    one.tick += one.group == x ? y : 0;
                }
                return true;
            case 11: told[x] = y == 1; return true;
            case 12: action[x] = y; return true;
            case 13: acting = x == 1; return true;
            default: return true;
        }
    }

    boolean performProcedure(int kind, int x, int y, int zz, int[] row) {
        Proc p = procs[x];
        boolean active = p.how != '-';
        switch (kind) {
            case 14:
                if (active || y > p.rows.size()) {
                    return false;
                }
                if (y == p.rows.size()) {
                    p.rows.add(row);
                } else {
                    p.rows.set(y, row);
                }
                return true;
            case 15:
                if (active || p.rows.isEmpty()) {
                    return false;
                }
                p.how = 'r';
                p.limit = y;
                p.registers = new int[4];
                p.row = p.ticks = p.here = 0;
                p.waits = null;
                return true;
            case 16:
                if (p.how != (y == 1 ? 'r' : 'h')) {
                    return false;
                }
                p.how = y == 1 ? 'h' : 'r';
                return true;
            case 17:
                if (!active) {
                    return false;
                }
                end(x, 97);
                return true;
            default:
                if (active) {
                    return false;
                }
                p.rows.clear();
                return true;
        }
    }

    boolean performReports(int kind, int x, int y, int zz, int u, int v, int w) {
        switch (kind) {
            case 19:
                if (y == -1) {
                    structures.get(x).clear();
                    return true;
                }
                if (structures.get(x).size() == 6) {
                    return false;
                }
                structures.get(x).add(y);
                return true;
            case 20: every[x] = y; return true;
            case 21: case 22: case 23:
                Monitor m = new Monitor();
                m.kind = kind - 20;
                m.parameter = y;
                m.z = zz;
                m.u = u;
                m.v = v;
                m.w = w;
                monitors[x] = m;
                return true;
            case 24:
                if (monitors[x].kind == 0) {
                    return false;
                }
                monitors[x].on = y == 1;
                monitors[x].count = 0;
                monitors[x].ahead = null;
                return true;
            case 25: stores[x].takes[y] = zz == 1; return true;
            case 26: stores[x].ring = y == 1; return true;
            case 27:
                for (Report r : stores[x].reports) {
                    if (in(r.number, y, zz) && played.size() < 40) {
                        played.add(r);
                    }
                }
                return true;
            case 28: played.clear(); return true;
            default: stores[x].reports.removeIf(r -> r.number <= y); return true;
        }
    }

    boolean performMemory(int kind, int x, int y, int zz, int u, int v, int w) {
        switch (kind) {
            case 30: put(x, y, zz); return true;
            case 31:
                List<Integer> bytes = bytes(x, y, y + zz - 1);
                int[] values = new int[zz];
                for (int i = 0; i < zz; i++) {
                    values[i] = bytes.get(i);
                }
                report(3, x, y, values);
                return true;
            case 32: report(3, 10 + x, y, d(bytes(x, y, zz))); return true;
            case 33:
                if (from == x) {
                    return false;
                }
                images[x].begun = true;
                images[x].whole = false;
                for (int i = 0; i < 64; i++) {
                    put(x, i, 0);
                }
                return true;
            case 34:
                if (!images[x].begun) {
                    return false;
                }
                put(x, y, zz);
                put(x, y + 1, u);
                put(x, y + 2, v);
                put(x, y + 3, w);
                return true;
            case 35:
                if (!images[x].begun || d(bytes(x, 0, 63)) != y) {
                    return false;
                }
                images[x].begun = false;
                images[x].whole = true;
                images[x].sum = y;
                return true;
            case 36:
                if (!images[x].whole) {
                    return false;
                }
                nextImage = x;
                return true;
            case 37: return true;
            case 38:
                if (files[x].whole) {
                    return false;
                }
                files[x].parts.put(y, new int[] {zz, u, v, w});
                return true;
            case 39: return endFile(x, y, zz);
            case 40: files[x] = new File(); return true;
            case 41: level[x] = y == 1; return true;
            case 42:
                for (Unit unit : units) {
                    unit.misses = unit.still = 0;
                }
                return true;
            default:
                if (!files[x].parts.containsKey(y)) {
                    return false;
                }
                report(4, x, y, files[x].parts.get(y));
                return true;
        }
    }

    boolean endFile(int x, int parts, int sum) {
        File f = files[x];
        if (f.whole) {
            return false;
        }
        List<Integer> cells = new ArrayList<>();
        for (int i = 0; i < parts; i++) {
            if (!f.parts.containsKey(i)) {
                report(4, x, i);
                return false;
            }
            for (int cell : f.parts.get(i)) {
                cells.add((int) ((cell % 65536L + 65536L) % 65536L));
            }
        }
        if (d(cells) != sum) {
            f.parts.clear();
            return false;
        }
        f.parts.keySet().removeIf(part -> part >= parts);
        f.whole = true;
        event(9, x);
        return true;
    }

    // Part 5.

    void schedule() {
        List<Entry> due = new ArrayList<>();
        for (Iterator<Entry> i = entries.iterator(); i.hasNext();) {
            Entry e = i.next();
            if (e.tick <= t) {
                due.add(e);
                i.remove();
            }
        }
        for (Entry e : due) {
            if (e.tick == t && scheduleOn && groupOn[e.group]) {
                push(e.c, 's');
            } else {
                lost++;
            }
        }
    }

    void event(int number, int detail) {
        if (told[number]) {
            report(1, number, detail);
        }
        if (acting && action[number] >= 0) {
            push(templates[action[number]], 'a');
        }
    }

    void report(int sort, int a, int b, int... values) {
        Report r = new Report();
        r.number = made++;
        r.tick = t;
        r.sort = sort;
        r.a = a;
        r.b = b;
        r.values = values.clone();
        if (atOnce.size() < 12) {
            atOnce.add(r);
        } else {
            dropped++;
        }
        for (Store s : stores) {
            if (s.takes[sort] && (s.ring || s.reports.size() < 24)) {
                s.reports.add(r);
                if (s.reports.size() > 24) {
                    s.reports.remove(0);
                }
            }
        }
    }

    // Part 6.

    void end(int number, int code) {
        Proc p = procs[number];
        p.how = '-';
        p.end = code;
        p.waits = null;
        report(5, number, code);
    }

    void procedures() {
        for (int i = 0; i < 4; i++) {
            Proc p = procs[i];
            if (p.how != 'r') {
                continue;
            }
            p.ticks++;
            if (p.ticks > p.limit) {
                end(i, 96);
                event(8, i);
            } else if (p.waits == null) {
                if (p.row == p.rows.size()) {
                    end(i, 0);
                } else {
                    row(i, p);
                }
            }
        }
    }

    static int mod(int number, int n) {
        return (number % n + n) % n;
    }

    void row(int number, Proc p) {
        int[] row = p.rows.get(p.row);
        int u = row[1];
        int v = row[2];
        int w = row[3];
        int to = p.row + 1;
        p.here++;
        switch (row[0]) {
            case 0: end(number, mod(u, 90)); return;
            case 1:
                if (p.here < u) {
                    return;
                }
                break;
            case 2:
                if (parameter(mod(u, 24)) >= v) {
                    p.registers[3] = 1;
                } else if (p.here >= w) {
                    p.registers[3] = 0;
                } else {
                    return;
                }
                break;
            case 3: p.registers[mod(u, 4)] = v; break;
            case 4: p.registers[mod(u, 4)] += v; break;
            case 5: p.registers[mod(u, 4)] = parameter(mod(v, 24)); break;
            case 6: to = p.registers[mod(u, 4)] < v ? mod(w, p.rows.size() + 1) : to; break;
            case 7: to = mod(u, p.rows.size() + 1); break;
            case 8:
                Queued q = push(templates[mod(u, 12)], 'p');
                if (q != null) {
                    q.waiter = p;
                    p.waits = q;
                    return;
                }
                p.registers[3] = 9;
                break;
            default: event(mod(u, 16), p.registers[mod(v, 4)]);
        }
        p.row = to;
        p.here = 0;
    }

    // Part 7.

    int parameter(int i) {
        int count = 0;
        switch (i) {
            case 0: return t;
            case 1: return mode;
            case 2: return battery;
            case 3: return warmth;
            case 4: return measuredAngle;
            case 5: return measuredRate;
            case 6: return queue.size();
            case 7: return entries.size();
            case 8:
                for (Unit unit : units) {
                    count += unit.on ? 1 : 0;
                }
                return count;
            case 9:
                for (Unit unit : units) {
                    count += unit.bad ? 1 : 0;
                }
                return count;
            case 10: return next;
            case 11: return locked ? 1 : 0;
            case 12: return resets.size();
            case 13: return mended;
            case 14: return notMended;
            case 15: return lost;
            case 16: return atOnce.size();
            case 17: return played.size();
            case 18: case 19: case 20: return stores[i - 18].reports.size();
            case 21:
                for (Proc p : procs) {
                    count += p.how == 'r' ? 1 : 0;
                }
                return count;
            case 22: return from;
            default: return isSun() ? 1 : 0;
        }
    }

    void monitors() {
        for (Monitor m : monitors) {
            if (!m.on) {
                continue;
            }
            int value = parameter(m.parameter);
            boolean bad;
            if (m.kind == 1) {
                bad = !in(value, m.z, m.u);
            } else if (m.kind == 2) {
                bad = (value & m.z) != m.u;
            } else {
                bad = m.ahead != null && Math.abs((long) value - m.ahead) > m.z;
            }
            m.ahead = value;
            m.count = bad ? m.count + 1 : 0;
            if (m.count == m.v) {
                event(m.w, value);
            }
        }
    }

    void housekeeping() {
        for (int i = 0; i < 3; i++) {
            List<Integer> s = structures.get(i);
            if (!s.isEmpty() && every[i] > 0 && t % every[i] == 0) {
                int[] values = new int[s.size()];
                for (int j = 0; j < values.length; j++) {
                    values[j] = parameter(s.get(j));
                }
                report(2, i, values.length, values);
            }
        }
    }

    // Part 8.

    void frameDown() {
        if (!(units[2].on && units[2].truth != 'd') && !(units[3].on && units[3].truth != 'd')) {
            return;
        }
        Flight f = new Flight();
        f.next = next;
        f.turn = turnOnBoard;
        f.locked = locked;
        f.wait = wait;
        f.again = again;
        if (!atOnce.isEmpty()) {
            f.report = atOnce.remove(0);
        } else if (isPass() && !played.isEmpty()) {
            f.report = played.remove(0);
        }
        send(down, f);
    }

    // Part 9.

    static final int[] DATA = {3, 5, 6, 7, 9, 10, 11, 12};

    void put(int b, int place, int value) {
        boolean[] bits = new boolean[13];
        int s = 0;
        int ones = 0;
        for (int i = 0; i < 8; i++) {
            bits[DATA[i]] = (value >> i & 1) == 1;
            s ^= bits[DATA[i]] ? DATA[i] : 0;
        }
        for (int i = 1; i < 9; i *= 2) {
            bits[i] = (s & i) != 0;
        }
        for (int i = 1; i < 13; i++) {
            ones += bits[i] ? 1 : 0;
        }
        bits[0] = ones % 2 == 1;
        bank[b][place] = bits;
    }

    /** -2 if it stands, -1 if it cannot be mended, otherwise the bit that is to be turned. */
    int fault(int b, int place) {
        int s = 0;
        int ones = 0;
        for (int i = 0; i < 13; i++) {
            if (bank[b][place][i]) {
                s ^= i;
                ones++;
            }
        }
        if (ones % 2 == 1) {
            return s <= 12 ? s : -1;
        }
        return s == 0 ? -2 : -1;
    }

    int read(int b, int place) {
        int fault = fault(b, place);
        if (fault == -1) {
            return 0;
        }
        int value = 0;
        for (int i = 0; i < 8; i++) {
            value += bank[b][place][DATA[i]] != (fault == DATA[i]) ? 1 << i : 0;
        }
        return value;
    }

    List<Integer> bytes(int b, int first, int last) {
        List<Integer> bytes = new ArrayList<>();
        for (int i = first; i <= last; i++) {
            bytes.add(read(b, i));
        }
        return bytes;
    }

    int c(int i) {
        return read(0, i);
    }

    void mending() {
        for (int b = 0; b < 4; b++) {
            int place = t % 64;
            int fault = fault(b, place);
            if (fault >= 0) {
                put(b, place, read(b, place));
                mended++;
                event(4, 64 * b + place);
            } else if (fault == -1) {
                notMended++;
                event(5, 64 * b + place);
            }
        }
    }

    void reset() {
        while (!queue.isEmpty()) {
            ended(queue.remove(0), 9);
        }
        for (Proc p : procs) {
            p.waits = null;
            if (p.how != '-') {
                p.how = '-';
                p.end = 98;
            }
        }
        scheduleOn = acting = false;
        atOnce.clear();
        played.clear();
        resets.add(t);
        board = 's';
        resetting = 4;
    }

    void start() {
        int n = resets.size();
        if (n >= 3 && resets.get(n - 1) - resets.get(n - 3) <= 100) {
            safe(-1);
            nextImage = nextImage == 2 ? 3 : 2;
        }
        int other = nextImage == 2 ? 3 : 2;
        if (canStart(nextImage)) {
            from = nextImage;
        } else if (canStart(other)) {
            from = other;
        } else {
            from = -1;
            board = 'k';
            return;
        }
        for (int i = 0; i < 8; i++) {
            put(0, i, read(from, i));
        }
        nextImage = from;
        board = 'r';
        event(6, from);
    }

    boolean canStart(int image) {
        return images[image].whole && d(bytes(image, 0, 63)) == images[image].sum;
    }

    void onBoard() {
        switch (board) {
            case 'r': running(); break;
            case 'k': command(); break;
            case 's':
                resetting--;
                if (resetting == 0) {
                    start();
                }
                break;
            case 'h':
                hanging++;
                if (level[2] && hanging > c(5)) {
                    reset();
                }
                break;
            default:
                if (battery >= 50) {
                    board = 's';
                    resetting = 4;
                    safe(-1);
                }
        }
        if (queue.size() < 8 && (board == 'r' || board == 'k')) {
            wait = false;
        }
    }

    void running() {
        ask();
        heaters();
        wheels();
        monitors();
        schedule();
        procedures();
        command();
        if (board != 'r') {
            return;
        }
        housekeeping();
        mending();
        levels();
    }

    // Part 10.

    static int round(int angle) {
        return angle > 179 ? angle - 360 : angle < -180 ? angle + 360 : angle;
    }

    static int keep(int number, int least, int most) {
        return number < least ? least : number > most ? most : number;
    }

    void around() {
        angle = round(angle + rate);
        if (t % 32 == 0) {
            rate = keep(rate + 1, -9, 9);
        }
        if (isSun()) {
            battery += 30 - Math.abs(angle / 6);
        }
        battery -= board == 'o' ? 2 : 4;
        int[] uses = {0, 0, 5, 5, 1, 1, 1, 1, 3, 3, 1, 1, 1, 1, 6};
        for (int i = 2; i < 15; i++) {
            battery -= units[i].on ? uses[i] : 0;
        }
        battery = keep(battery, 0, 1000);
        if (battery == 0 && board != 'o') {
            for (int i = 2; i < 15; i++) {
                units[i].on = false;
            }
            reset();
            board = 'o';
        }
        if (t % 4 == 0) {
            warmth += isSun() ? 1 : -1;
            if (units[8].on && units[8].truth != 'd' || units[9].on && units[9].truth != 'd') {
                warmth += 2;
            }
            warmth = keep(warmth, -60, 80);
        }
    }

    void on(int unit) {
        units[unit].on = true;
        units[unit].misses = units[unit].still = 0;
    }

    void ask() {
        angleNow = null;
        rateNow = null;
        int most = c(2);
        for (int i = 2; i < 15; i++) {
            Unit unit = units[i];
            if (!unit.on) {
                continue;
            }
            Integer answer = answer(i, unit);
            if (i == 4 || i == 5) {
                boolean still = answer != null && answer.equals(unit.last) && turnedAt == t - 1;
                unit.still = still ? unit.still + 1 : 0;
                rateNow = rateNow == null ? answer : rateNow;
            }
            if (i == 6 || i == 7) {
                angleNow = angleNow == null ? answer : angleNow;
            }
            if (answer != null) {
                unit.last = answer;
            }
            unit.misses = unit.truth == 'd' ? unit.misses + 1 : 0;
            if (level[1] && (unit.misses >= most || unit.still >= 6)) {
                unit.bad = true;
                unit.on = false;
                event(1, i);
                int other = i % 2 == 0 ? i + 1 : i - 1;
                if (i <= 9 && !units[other].bad) {
                    on(other);
                }
            }
        }
        measuredAngle = angleNow == null ? measuredAngle : angleNow;
        measuredRate = rateNow == null ? measuredRate : rateNow;
    }

    /** The number that a gyro or a sun sensor answers, null without one. */
    Integer answer(int i, Unit unit) {
        if (unit.truth == 'd' || i < 4 || i > 7) {
            return null;
        }
        if (unit.truth == 's') {
            return unit.last == null ? Integer.valueOf(0) : unit.last;
        }
        if (i < 6) {
            return rate;
        }
        return isSun() ? Integer.valueOf(angle) : null;
    }

    void firstOf(int unit) {
        if (!units[unit].bad) {
            on(unit);
        } else if (!units[unit + 1].bad) {
            on(unit + 1);
        }
    }

    void heaters() {
        if (warmth < c(6) - 100 && !units[8].on && !units[9].on) {
            firstOf(8);
        }
        if (warmth > c(7) - 100) {
            units[8].on = units[9].on = false;
        }
    }

    void wheels() {
        int working = 0;
        for (int i = 10; i < 14; i++) {
            working += units[i].on && units[i].truth != 'd' ? 1 : 0;
        }
        if (working < 3 || rateNow == null) {
            return;
        }
        int q = angleNow == null ? 0 : round((mode == 2 ? 60 : 0) - angleNow);
        int h = keep(q / 20, -4, 4);
        if (h == 0 && q != 0) {
            h = q > 0 ? 1 : -1;
        }
        if (rateNow < h) {
            rate = keep(rate + 1, -9, 9);
            turnedAt = t;
        } else if (rateNow > h) {
            rate = keep(rate - 1, -9, 9);
            turnedAt = t;
        }
    }

    // Part 11.

    int why(boolean withBattery) {
        if (withBattery && battery < 10 * c(0)) {
            return 1;
        }
        if (units[4].bad && units[5].bad) {
            return 2;
        }
        if (units[6].bad && units[7].bad) {
            return 3;
        }
        int good = 0;
        for (int i = 10; i < 14; i++) {
            good += units[i].bad ? 0 : 1;
        }
        return good < 3 ? 4 : 0;
    }

    void levels() {
        if (level[3] && mode != 0 && why(true) != 0) {
            safe(why(true));
        }
        if (mode == 0) {
            if (battery < 10 * c(1)) {
                units[2].on = units[3].on = false;
            }
            if (battery >= 10 * c(0) && !units[2].on && !units[3].on) {
                firstOf(2);
            }
        }
    }

    void safe(int why) {
        if (mode != 0) {
            safeSince = t;
        }
        mode = 0;
        scheduleOn = acting = false;
        for (int i = 0; i < 4; i++) {
            if (procs[i].how != '-') {
                end(i, 99);
            }
        }
        units[14].on = false;
        for (int i = 4; i < 8; i += 2) {
            if (!units[i].on && !units[i + 1].on) {
                firstOf(i);
            }
        }
        for (int i = 10; i < 14; i++) {
            if (!units[i].bad) {
                on(i);
            }
        }
        if (why >= 0) {
            event(2, why);
        }
    }

    // What the ground is told.

    boolean tell(boolean isFast, int kind, int... n) {
        List<Integer> row = isFast ? fast : inOrder;
        if (row.size() == 24) {
            return false;
        }
        row.add(orders.size());
        orders.add(new Cmd(kind, n));
        ends.add(-1);
        return true;
    }

    boolean begin(int number) {
        if (state != 'a' || !inOrder.isEmpty() || !sent.isEmpty() || t - lastInOrder <= 20) {
            return false;
        }
        send = number;
        controlSets = true;
        controlNumber = number;
        control();
        return true;
    }

    boolean unlock() {
        if (state != 'l') {
            return false;
        }
        controlSets = false;
        control();
        return true;
    }

    private void control() {
        turn = (turn + 1) % 256;
        state = 'c';
        tries = 0;
        controlMarked = true;
    }

    boolean resume() {
        if (state != 's') {
            return false;
        }
        tries = 0;
        if (stateAhead == 'c') {
            controlMarked = true;
        } else {
            markAll();
        }
        state = stateAhead;
        return true;
    }

    boolean hang() {
        if (board != 'r') {
            return false;
        }
        board = 'h';
        hanging = 0;
        return true;
    }

    // What Check.look() tells, in its order.

    private List<Long> all;

    private void add(long... numbers) {
        for (long number : numbers) {
            all.add(number);
        }
    }

    private static int n(boolean is) {
        return is ? 1 : 0;
    }

    List<Long> look() {
        all = new ArrayList<>();
        int marked = 0;
        for (Sent s : sent) {
            marked += n(s.marked);
        }
        add(state, orders.size(), inOrder.size(), fast.size(), sent.size(), marked, send, turn, tries, timer, framesUp,
                framesDown, framesBent, kept.size());
        for (Sent s : sent) {
            add(s.number, s.order, n(s.marked));
        }
        for (Report r : kept) {
            add(r.number, r.tick, r.sort, r.a, r.b, r.values.length);
            for (int value : r.values) {
                add(value);
            }
        }
        lookAtBoard();
        lookAtRows();
        lookAtMemory();
        add(battery, warmth, angle, rate, n(isSun()), n(isPass()), made, dropped);
        add(checksum());
        return all;
    }

    private void lookAtBoard() {
        add(board, next, turnOnBoard, n(locked), n(wait), n(again));
        for (Queued q : queue) {
            add(q.c.kind, q.order, q.from);
            for (int number : q.c.n) {
                add(number);
            }
        }
        for (Entry e : entries) {
            add(e.tick, e.group, e.c.kind);
        }
        add(n(scheduleOn), n(acting));
        for (boolean is : groupOn) {
            add(n(is));
        }
        add(n(level[1]), n(level[2]), n(level[3]));
        for (Cmd c : templates) {
            add(c.kind);
            for (int number : c.n) {
                add(number);
            }
        }
        for (Proc p : procs) {
            add(p.how == 'r' ? 2 : p.how == 'h' ? 3 : n(!p.rows.isEmpty()), p.row, p.rows.size(), p.ticks, p.limit,
                    p.end);
            for (int number : p.registers) {
                add(number);
            }
            for (int[] row : p.rows) {
                add(row[0], row[1], row[2], row[3]);
            }
        }
        for (Unit unit : units) {
            add(n(unit.on), n(unit.bad), unit.misses, unit.still, unit.truth);
        }
    }

    private void lookAtRows() {
        for (int i = 0; i < 3; i++) {
            add(every[i]);
            for (int parameter : structures.get(i)) {
                add(parameter);
            }
            int sum = 0;
            for (int j = 0; j < 6; j++) {
                sum += n(stores[i].takes[j]) << j;
            }
            add(n(stores[i].ring), sum);
            for (Report r : stores[i].reports) {
                add(r.number);
            }
        }
        for (Monitor m : monitors) {
            add(m.kind, m.parameter, m.count, n(m.on));
        }
        for (int i = 0; i < 16; i++) {
            add(n(told[i]), action[i]);
        }
        for (Report r : atOnce) {
            add(r.number);
        }
        for (Report r : played) {
            add(r.number);
        }
    }

    private int word(int b, int place) {
        int word = 0;
        for (int i = 0; i < 13; i++) {
            word += n(bank[b][place][i]) << i;
        }
        return word;
    }

    private void lookAtMemory() {
        for (int i = 0; i < 256; i++) {
            add(word(i / 64, i % 64), read(i / 64, i % 64));
        }
        for (int i = 2; i < 4; i++) {
            add(n(images[i].whole), n(images[i].begun), n(nextImage == i), images[i].sum);
        }
        for (File f : files) {
            add(n(f.whole), f.parts.size());
            for (int i = 0; i < 16; i++) {
                if (f.parts.containsKey(i)) {
                    for (int cell : f.parts.get(i)) {
                        add(cell);
                    }
                } else {
                    add(Long.MIN_VALUE);
                }
            }
        }
    }

    long checksum() {
        long h = 7;
        for (int i = 0; i < 24; i++) {
            h = 31 * h + parameter(i);
        }
        for (int number : new int[] {next, turnOnBoard, send, turn, tries, angle, rate}) {
            h = 31 * h + number;
        }
        for (Unit unit : units) {
            h = 31 * h + n(unit.on);
        }
        for (int i = 0; i < 256; i++) {
            h = 31 * h + word(i / 64, i % 64);
        }
        h = 31 * h + made;
        for (int end : ends) {
            h = 31 * h + end;
        }
        return h;
    }
}
