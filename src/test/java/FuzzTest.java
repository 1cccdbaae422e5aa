import java.util.NoSuchElementException;

/** Promises 49 and 50, and that nothing is thrown but what the document tells: many runs of calls, the same each time. */
public final class FuzzTest {
    private static long seed;

    public static void main(String[] args) {
        for (int run = 0; run < 1500; run++) {
            seed = 1000003L * run + 17;
            drive(run);
        }
        Check.finish("FuzzTest");
    }

    private static int next(int n) {
        seed = seed * 6364136223846793005L + 1442695040888963407L;
        return (int) ((seed >>> 33) % n);
    }

    private static int number() {
        int[] some = {Integer.MIN_VALUE, -1, 0, 1, 2, 3, 12, 63, 64, 255, Integer.MAX_VALUE};
        return next(3) == 0 ? some[next(some.length)] : next(20) - 3;
    }

    private static void drive(int run) {
        Orbithouse o = new Orbithouse();
        if (next(2) == 0) {
            o.sky(96, 48);
        }
        for (int call = 0; call < 400; call++) {
            try {
                call(o, next(40));
            } catch (IllegalArgumentException | IllegalStateException | NoSuchElementException e) {
                Check.same("its own exception", e.getStackTrace()[0].getClassName().equals("Orbithouse"), true);
            } catch (IndexOutOfBoundsException e) {
                Check.same("run " + run + ": " + e, e.getClass() == IndexOutOfBoundsException.class
                        && e.getStackTrace()[0].getClassName().equals("Orbithouse"), true);
            }
            if (call % 20 == 0) {
                Check.same("sound in run " + run, o.isSound(), true);
                Check.same("true in run " + run, o.isTrue(), true);
            }
        }
        Check.look(o);
    }

    private static void call(Orbithouse o, int which) {
        if (which < 14) {
            command(o, next(3) > 0);
            return;
        }
        if (which < 30) {
            o.step(1 + next(next(5) == 0 ? 40 : 5));
            return;
        }
        switch (which) {
            case 30: o.link(next(2) == 0, 1 + next(9), next(10), next(10), next(10), next(10)); break;
            case 31: o.link(next(2) == 0, 1 + next(9), 0, next(3), next(3), 0); break;
            case 32: o.breakUnit(next(15), "gdsg".charAt(next(4))); break;
            case 33: o.flip(next(4), next(64), next(13)); break;
            case 34: mend(o); break;
            case 35: o.window(1 + next(20), 5 + next(56), 1 + next(9)); break;
            case 36: o.drain(next(300)); break;
            case 37: o.seed(next(65536)); break;
            case 38: o.sky(next(97), next(49)); break;
            default: look(o);
        }
    }

    private static void mend(Orbithouse o) {
        switch (next(4)) {
            case 0: o.begin(next(64)); break;
            case 1: o.unlock(); break;
            case 2: o.resume(); break;
            default: o.hang();
        }
    }

    private static void command(Orbithouse o, boolean isSmall) {
        int kind = next(46) - 1;
        if (isSmall) {
            int x = next(4);
            int y = next(3) == 0 ? o.parameter(0) + 1 + next(20) : next(8);
            o.tell(next(2) == 0, kind, x, y, next(10), next(8), 1 + next(9), next(16));
        } else {
            o.tell(next(2) == 0, kind, number(), number(), number(), number(), number(), number());
        }
    }

    private static void look(Orbithouse o) {
        int i = number();
        char c = (char) (next(2) == 0 ? next(300) : 'a' + next(26));
        switch (next(12)) {
            case 0: o.kept(i, c); break;
            case 1: o.keptValue(i, number()); break;
            case 2: o.queueAt(i, c); break;
            case 3: o.rowOf(i, number(), number()); break;
            case 4: o.filePart(i, number(), number()); break;
            case 5: o.storeAt(i, number()); break;
            case 6: o.unit(i, c); break;
            case 7: o.procedure(i, c); break;
            case 8: o.entryAt(i, c); break;
            case 9: o.sentAt(i, c); break;
            case 10: o.structureAt(i, number()); break;
            default: o.endOf(i);
        }
    }
}
