import java.util.List;

/** The class and the Model under the same random calls: all that can be seen is the same behind each call. */
public final class ModelTest {
    /** What a run is mostly about: all kinds, procedures, images, links, the schedule and actions. */
    private static final int[][] MOODS = {
        {},
        {14, 14, 14, 14, 14, 15, 15, 15, 16, 4, 4, 11, 21, 24},
        {33, 34, 35, 36, 37, 33, 35, 0, 31},
        {0, 0, 0, 0, 0, 0, 0, 0, 1, 99},
        {4, 4, 6, 6, 6, 6, 7, 8, 9, 10, 12, 12, 13, 14, 15, 21, 24, 99},
    };

    private static long seed;
    private static int mood;

    public static void main(String[] args) {
        int runs = args.length > 0 ? Integer.parseInt(args[0]) : 250;
        int first = args.length > 1 ? Integer.parseInt(args[1]) : 0;
        for (int run = first; run < first + runs; run++) {
            seed = 7919L * run + 5;
            drive(run);
        }
        Check.finish("ModelTest");
    }

    private static int next(int n) {
        seed = seed * 6364136223846793005L + 1442695040888963407L;
        return (int) ((seed >>> 33) % n);
    }

    private static void drive(int run) {
        Orbithouse o = new Orbithouse();
        Model m = new Model();
        int style = next(6);
        mood = next(MOODS.length);
        if (style < 4) {
            int sun = style < 2 ? 96 : 40 + next(57);
            int pass = style % 2 == 0 ? 48 : 10 + next(39);
            o.sky(sun, pass);
            m.sun = sun;
            m.pass = pass;
        }
        for (int call = 0; call < 300 && m.t < 3990; call++) {
            String what = act(o, m, style);
            List<Long> got = Check.look(o);
            List<Long> due = m.look();
            if (!got.equals(due)) {
                int at = 0;
                while (at < got.size() && at < due.size() && got.get(at).equals(due.get(at))) {
                    at++;
                }
                Check.same("run " + run + ", call " + call + " " + what + ", T " + m.t + ": place " + at + " of all",
                        at < got.size() ? got.get(at) : -77, at < due.size() ? due.get(at) : -77);
                return;
            }
        }
        for (int i = 0; i < m.ends.size(); i++) {
            Check.same("end", o.endOf(i), m.ends.get(i));
        }
        Check.same("sound", o.isSound(), true);
        Check.same("true", o.isTrue(), true);
    }

    private static String act(Orbithouse o, Model m, int style) {
        int which = next(30);
        if (which < 13) {
            return command(o, m, which);
        }
        if (which < 24) {
            int ticks = next(6) == 0 ? 1 + next(30) : 1 + next(4);
            o.step(ticks);
            for (int i = 0; i < ticks; i++) {
                m.tick();
            }
            return "step";
        }
        switch (which) {
            case 24: return controls(o, m);
            case 25: return faults(o, m);
            case 26:
                if (mood == 3 || style % 3 == 0 && next(3) == 0) {
                    boolean isUp = next(2) == 0;
                    int[] n = {1 + next(9), next(6), next(6), next(6), next(4)};
                    if (next(3) == 0) {
                        n = new int[] {1 + next(3), 0, 0, 0, 0};
                    }
                    o.link(isUp, n[0], n[1], n[2], n[3], n[4]);
                    Model.Way way = isUp ? m.up : m.down;
                    way.delay = n[0];
                    way.four = new int[] {n[1], n[2], n[3], n[4]};
                } else {
                    boolean isUp = next(2) == 0;
                    int delay = 1 + next(9);
                    o.link(isUp, delay, 0, 0, 0, 0);
                    Model.Way way = isUp ? m.up : m.down;
                    way.delay = delay;
                    way.four = new int[4];
                }
                return "link";
            case 27:
                int z = next(65536);
                o.seed(z);
                m.z = z;
                return "seed";
            default: return "nothing";
        }
    }

    private static boolean throwsState(Check.Call call) {
        try {
            call.run();
            return false;
        } catch (IllegalStateException e) {
            return true;
        }
    }

    private static String controls(Orbithouse o, Model m) {
        int which = next(4);
        int number = next(64);
        boolean refused = throwsState(() -> {
            switch (which) {
                case 0: o.begin(number); break;
                case 1: o.unlock(); break;
                case 2: o.resume(); break;
                default: o.window(1 + number % 20, 5 + number % 56, 1 + number % 9);
            }
        });
        boolean done;
        switch (which) {
            case 0: done = m.begin(number); break;
            case 1: done = m.unlock(); break;
            case 2: done = m.resume(); break;
            default:
                // Wide windows let a receiver be locked.
                m.window = 1 + number % 20;
                m.time = 5 + number % 56;
                m.limit = 1 + number % 9;
                done = true;
        }
        Check.same("refused " + which, refused, !done);
        return "control " + which;
    }

    private static String faults(Orbithouse o, Model m) {
        switch (next(5)) {
            case 0:
                int unit = next(15);
                char how = "ggdds".charAt(next(5));
                o.breakUnit(unit, how);
                m.units[unit].truth = how;
                return "break " + unit + how;
            case 1: case 2:
                int bank = mood == 2 ? 2 + next(2) : next(4);
                int place = next(3) == 0 ? next(9) : next(64);
                for (int i = next(mood == 2 ? 3 : 2); i >= 0; i--) {
                    int bit = next(13);
                    int got = o.flip(bank, place, bit);
                    m.bank[bank][place][bit] ^= true;
                    Check.same("flip", got, m.read(bank, place));
                }
                return "flip " + bank + " " + place;
            case 3:
                int amount = next(3) == 0 ? next(1001) : next(100);
                o.drain(amount);
                m.battery = Math.max(0, m.battery - amount);
                return "drain";
            default:
                boolean refused = throwsState(o::hang);
                Check.same("hang", refused, !m.hang());
                return "hang";
        }
    }

    private static String command(Orbithouse o, Model m, int which) {
        boolean isFast = mood == 3 ? next(8) == 0 : next(3) != 0;
        int[] some = MOODS[mood];
        int kind = some.length == 0 || next(5) == 0 ? next(45) : some[next(some.length)];
        int[] n = sensible(kind, m);
        if (next(8) == 0) {
            n[next(6)] = next(2) == 0 ? next(70) - 3 : next(2) == 0 ? Integer.MIN_VALUE : 1 << next(31);
        }
        boolean refused = throwsState(() -> o.tell(isFast, kind, n[0], n[1], n[2], n[3], n[4], n[5]));
        Check.same("tell", refused, !m.tell(isFast, kind, n));
        return "tell " + kind + java.util.Arrays.toString(n);
    }

    private static int[] sensible(int kind, Model m) {
        int soon = m.t + 4 + next(40);
        switch (kind) {
            case 1: return of(2 + next(13), next(3) == 0 ? 0 : 1);
            case 2: return of(2 + next(13), next(3) == 0 ? 1 : 0);
            case 3: return of(next(5) == 0 ? 0 : 1 + next(2));
            case 4: return template(m);
            case 5: return of(next(12), 1 + next(9), next(16));
            case 6: return of(next(12), soon, next(4));
            case 7: case 13: return of(next(4) == 0 ? 0 : 1);
            case 8: return of(next(4), next(4) == 0 ? 0 : 1);
            case 9: return of(next(4), soon, soon + next(50));
            case 10: return of(next(4), next(60) - 20);
            case 11: return of(next(16), next(4) == 0 ? 0 : 1);
            case 12: return of(next(16), next(14) - 1);
            case 14: return row(m);
            case 15: return of(next(4), 1 + next(60));
            case 16: case 41: return of(next(4), next(3) == 0 ? 0 : 1);
            case 17: case 18: return of(next(3) == 0 ? next(4) : 3);
            case 19: return of(next(3), next(25) - (next(4) == 0 ? 1 : 0));
            case 20: return of(next(3), next(12));
            case 21: return of(next(6), next(24), next(10), next(1000), 1 + next(4), next(16));
            case 22: return of(next(6), next(24), next(16), next(8), 1 + next(4), next(16));
            case 23: return of(next(6), next(24), next(4), 0, 1 + next(2), next(16));
            case 24: return of(next(6), next(5) == 0 ? 0 : 1);
            case 25: return of(next(3), next(6), next(3) == 0 ? 0 : 1);
            case 26: return of(next(3), next(2));
            case 27: return of(next(3), m.made - next(40), m.made);
            case 29: return of(next(3), m.made - next(40));
            case 30: return of(next(2), next(3) == 0 ? next(64) : 8 + next(50), next(256));
            case 31: return of(next(4), next(60), 1 + next(6));
            case 32: return of(next(4), next(30), 20 + next(44));
            case 33: return of(2 + next(2));
            case 34: return of(2 + next(2), 4 * next(16), next(256), next(256), next(256), next(256));
            case 35:
                int image = 2 + next(2);
                return of(image, Model.d(m.bytes(image, 0, 63)));
            case 36: return of(2 + next(2));
            case 38: return of(next(3), next(3), next(9), -next(9), 65536 + next(3), next(70000));
            case 39: return endOfFile(m);
            case 40: case 43: return of(next(3), next(4));
            default: return of(next(4), next(4));
        }
    }

    private static int[] endOfFile(Model m) {
        int file = next(3);
        int parts = 1 + next(3);
        List<Integer> cells = new java.util.ArrayList<>();
        for (int i = 0; i < parts; i++) {
            int[] part = m.files[file].parts.get(i);
            for (int j = 0; part != null && j < 4; j++) {
                cells.add(Math.floorMod(part[j], 65536));
            }
        }
        return of(file, parts, Model.d(cells) + (next(4) == 0 ? 1 : 0));
    }

    private static int[] template(Model m) {
        int kind = next(44);
        int[] n = sensible(kind == 4 ? 3 : kind, m);
        return of(next(12), kind, n[0], n[1], n[2], n[3]);
    }

    private static int[] row(Model m) {
        int p = next(4);
        int y = Math.min(11, next(3) == 0 ? next(3) : m.procs[p].rows.size());
        int operation = next(3) == 0 ? 8 : next(10);
        int u = operation == 1 ? next(6) : next(40) - 8;
        return of(p, y, operation, u, operation == 2 ? next(200) : next(30) - 5, next(15) - 2);
    }

    private static int[] of(int... n) {
        return java.util.Arrays.copyOf(n, 6);
    }
}
