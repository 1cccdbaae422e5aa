/** Parts 1 and 2: ticks, DRAWS, and what links do to frames; promises 2 to 5, 12, 16 and 17 with them. */
public final class LinkTest {
    private static int z;

    public static void main(String[] args) {
        sunAndPass();
        delays();
        upByDraws();
        downByDraws();
        noDrawWithoutPass();
        sameTickInOrderOfSending();
        doubleFastTellsTheLater();
        doubleReportIsKeptOnce();
        Check.finish("LinkTest");
    }

    private static int draw(int n) {
        z = (int) ((25173L * z + 13849) % 65536);
        return z / 16 % n;
    }

    private static void sunAndPass() {
        Orbithouse o = new Orbithouse();
        for (int t = 1; t < 200; t++) {
            o.step(1);
            Check.same("SUN at " + t, o.world('s'), t % 96 < 60 ? 1 : 0);
            Check.same("PASS at " + t, o.world('p'), t % 48 < 16 ? 1 : 0);
            Check.same("SUN as parameter", o.parameter(23), o.world('s'));
        }
    }

    private static void delays() {
        for (int delay = 1; delay <= 9; delay++) {
            Orbithouse o = Check.near();
            o.link(true, delay, 0, 0, 0, 0);
            int order = Check.tellFast(o, 0);
            o.step(delay);
            Check.same("not yet, delay " + delay, o.endOf(order), -1);
            o.step(1);
            Check.same("come, delay " + delay, o.endOf(order), 0);
        }
        for (int delay = 1; delay <= 9; delay++) {
            Orbithouse o = Check.near();
            o.link(false, delay, 0, 0, 0, 0);
            o.step(delay);
            Check.same("no frame down yet", o.ground('d'), 0);
            o.step(1);
            Check.same("first frame down", o.ground('d'), 1);
            o.step(5);
            Check.same("one in each tick", o.ground('d'), 6);
        }
    }

    /** A satellite that does not speak, so that all DRAWS are of the link up. */
    private static Orbithouse mute(int seed) {
        Orbithouse o = Check.near();
        o.breakUnit(2, 'd');
        o.breakUnit(3, 'd');
        o.step(30);
        o.seed(seed);
        z = seed;
        return o;
    }

    private static void upByDraws() {
        int[] seen = new int[4];
        for (int i = 0; i < 40; i++) {
            Orbithouse o = mute(977 * i + 13);
            o.link(true, 3, 3, 4, 5, 3);
            int sent = o.ground('u');
            int order = Check.tellFast(o, 0);
            o.step(1);
            int before = o.world('n');
            Check.same("sent", o.ground('u'), sent + 1);
            boolean gone = draw(10) < 3;
            int first = 3;
            int second = 0;
            boolean bent = false;
            if (!gone) {
                if (draw(10) < 4) {
                    first += 1 + draw(5);
                    seen[1]++;
                }
                if (draw(10) < 5) {
                    second = first + 1 + draw(5);
                    seen[2]++;
                }
                bent = draw(10) < 3;
            }
            seen[0] += gone ? 1 : 0;
            seen[3] += bent ? 1 : 0;
            for (int t = 1; t <= 20; t++) {
                o.step(1);
                int due = gone || bent ? 0 : (t >= first ? 1 : 0) + (second > 0 && t >= second ? 1 : 0);
                Check.same("done " + i + " at " + t, o.world('n') - before, due);
                Check.same("end " + i + " at " + t, o.endOf(order), due > 0 ? 0 : -1);
            }
            Check.same("z", o.seed(1), z);
        }
        for (int i = 0; i < 4; i++) {
            Check.same("kind of fate " + i + " was seen", seen[i] > 3, true);
        }
    }

    private static void downByDraws() {
        Orbithouse o = Check.near();
        o.link(false, 4, 2, 3, 4, 3);
        o.seed(4711);
        z = 4711;
        int[] good = new int[200];
        int[] bad = new int[200];
        for (int t = 1; t <= 150; t++) {
            if (draw(10) >= 2) {
                int at = t + 4;
                if (draw(10) < 3) {
                    at += 1 + draw(5);
                }
                int again = draw(10) < 4 ? at + 1 + draw(5) : 0;
                int[] row = draw(10) < 3 ? bad : good;
                row[at]++;
                if (again > 0) {
                    row[again]++;
                }
            }
            int wereGood = o.ground('d');
            int wereBad = o.ground('b');
            o.step(1);
            Check.same("arrived at " + t, o.ground('d') - wereGood, good[t]);
            Check.same("arrived bent at " + t, o.ground('b') - wereBad, bad[t]);
        }
        Check.same("z", o.seed(1), z);
    }

    private static void noDrawWithoutPass() {
        Orbithouse o = Check.near();
        o.sky(96, 0);
        o.seed(99);
        Check.tellFast(o, 0);
        Check.tellInOrder(o, 0);
        o.step(20);
        Check.same("no DRAW", o.seed(99), 99);
        Check.same("nothing sent up", o.ground('u'), 0);
        Check.same("nothing came down", o.ground('d'), 0);
        Check.same("it waits", o.ground('w') + o.ground('f'), 2);
        o.sky(96, 48);
        o.step(1);
        Check.same("sent", o.ground('u'), 1);
        // One frame down and one up, four DRAWS each.
        z = 99;
        for (int i = 0; i < 8; i++) {
            draw(10);
        }
        Check.same("eight DRAWS", o.seed(1), z);
    }

    private static void sameTickInOrderOfSending() {
        Orbithouse o = Check.near();
        int[] orders = new int[9];
        for (int i = 0; i < 9; i++) {
            orders[i] = Check.tellFast(o, 0);
        }
        for (int i = 0; i < 9; i++) {
            o.link(true, 9 - i, 0, 0, 0, 0);
            o.step(1);
        }
        Check.same("T", o.parameter(0), 9);
        o.step(1);
        Check.same("the first was done", o.endOf(orders[0]), 0);
        for (int i = 1; i < 8; i++) {
            Check.same("waits", o.endOf(orders[i]), -2);
            Check.same("in its place", o.queueAt(i - 1, 'o'), orders[i]);
        }
        Check.same("no room", o.endOf(orders[8]), -1);
        Check.same("by a frame it is not LOST", o.parameter(15), 0);
        o.step(7);
        Check.same("all done", o.parameter(6), 0);
    }

    private static void doubleFastTellsTheLater() {
        Orbithouse o = mute(1);
        int twin = 0;
        for (int i = 0; i < 8; i++) {
            twin = Check.tellFast(o, i == 7 ? 0 : 99);
        }
        for (int i = 0; i < 8; i++) {
            o.link(true, 9 - i, 0, 0, i == 7 ? 9 : 0, 0);
            if (i == 7) {
                // 12 makes the third DRAW less than 9.
                o.seed(12);
            }
            o.step(1);
        }
        o.step(2);
        Check.same("waits", o.endOf(twin), -2);
        o.step(6);
        Check.same("it is the next one", o.queueAt(0, 'o'), twin);
        Check.same("and the one behind it", o.queueAt(1, 'o'), twin);
        o.step(1);
        Check.same("the later one waits", o.endOf(twin), -2);
        o.step(1);
        Check.same("it is done", o.endOf(twin), 0);
    }

    private static void doubleReportIsKeptOnce() {
        Orbithouse o = Check.near();
        o.link(false, 1, 0, 0, 9, 0);
        o.seed(12);
        for (int i = 0; i < 5; i++) {
            Check.doneAs(o, 0, 0);
        }
        o.link(false, 1, 0, 0, 0, 0);
        o.step(10);
        Check.same("frames came twice", o.ground('d') > 25, true);
        Check.same("reports are kept once", o.ground('k'), 5);
        for (int i = 0; i < 5; i++) {
            Check.same("has " + i, o.hasKept(i), true);
        }
        Check.same("has not 5", o.hasKept(5), false);
        Check.same("true", o.isTrue(), true);
    }
}
