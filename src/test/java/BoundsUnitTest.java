/** The boundaries of parts 10 and 11: angle, rate, battery and warmth in their bounds, misses, wheels, levels, SAFE. */
public final class BoundsUnitTest {
    private static final int[] USES = {0, 0, 5, 5, 1, 1, 1, 1, 3, 3, 1, 1, 1, 1, 6};

    public static void main(String[] args) {
        rateIsKept(-1);
        rateIsKept(1);
        angleGoesRound(-1);
        angleGoesRound(1);
        batteryIsKept();
        warmthIsKeptAbove();
        warmthIsKeptBelow();
        missesByConstant();
        noMissesAreEnough();
        stillCounts();
        stillCountIsEnded();
        goodGyroIsNotStill();
        firstAnswerIsNotStill();
        heaterConstants();
        heatersHeldBad();
        workingWheels();
        turning();
        withoutAngle();
        batteryOfSafe();
        wheelsOfSafe();
        transmittersInSafe();
        batteryToLeaveSafe();
        ticksToLeaveSafe();
        safeByLevelThree();
        shareOfUnits();
        meanOfBattery();
        stuckMattersToFour();
        Check.finish("BoundsUnitTest");
    }

    private static int round(int angle) {
        return angle > 179 ? angle - 360 : angle < -180 ? angle + 360 : angle;
    }

    private static int keep(int number, int least, int most) {
        return Math.max(least, Math.min(most, number));
    }

    /** How much more, or less, the battery is to have behind the next tick. */
    private static int delta(Orbithouse o) {
        int used = o.board() == 'o' ? 2 : 4;
        for (int unit = 2; unit < 15; unit++) {
            used += o.unit(unit, 'o') == 1 ? USES[unit] : 0;
        }
        return -used;
    }

    private static int deltaInSun(Orbithouse o) {
        return delta(o) + 30 - Math.abs(round(o.world('a') + o.world('r'))) / 6;
    }

    /** Drains so much that the battery is as due behind the next tick, which is without SUN, and lets that go by. */
    private static void darkTick(Orbithouse o, int due) {
        o.sky(0, 48);
        int amount = o.world('b') + delta(o) - due;
        Check.same("there is enough to drain", amount >= 0, true);
        o.drain(amount);
        o.step(1);
        Check.same("battery", o.world('b'), due);
    }

    private static void sunnyTick(Orbithouse o, int due) {
        o.sky(96, 48);
        int amount = o.world('b') + deltaInSun(o) - due;
        Check.same("there is enough to drain", amount >= 0, true);
        o.drain(amount);
        o.step(1);
        Check.same("battery", o.world('b'), due);
    }

    /** "The rate is from -9 to 9, kept in this": a gyro and a sun sensor that are stuck let the wheels turn on and on. */
    private static void rateIsKept(int way) {
        Orbithouse o = Check.near();
        o.step(1);
        o.breakUnit(4, 's');
        o.breakUnit(6, 's');
        Check.doneAs(o, 0, 41, 1, 0);
        if (way > 0) {
            Check.doneAs(o, 0, 3, 2);
        }
        int turns = 0;
        for (int i = 0; i < 1000; i++) {
            int angle = round(o.world('a') + o.world('r'));
            int rate = o.world('r') + (o.parameter(0) % 32 == 31 ? 1 : 0);
            rate = keep(keep(rate, -9, 9) + way, -9, 9);
            turns += Math.abs(angle - o.world('a')) > 300 ? 1 : 0;
            o.step(1);
            Check.same("angle", o.world('a'), angle);
            Check.same("rate", o.world('r'), rate);
            Check.same("measured", o.parameter(5), 0);
            if (i > 40) {
                Check.same("it stays at its bound", o.world('r'), 9 * way);
            }
        }
        Check.same("many times round", turns > 20, true);
        Check.same("true", o.isTrue(), true);
    }

    /** "The angle, -180 to 179, goes round": by a stuck sun sensor alone the rate stays 1, or -1, through all angles. */
    private static void angleGoesRound(int way) {
        Orbithouse o = Check.near();
        // Far from the SUN there is little power: it is not to become SAFE, nor to go out.
        Check.doneAs(o, 0, 41, 3, 0);
        Check.doneAs(o, 0, 1, 2, 0);
        if (way > 0) {
            Check.doneAs(o, 0, 3, 2);
            for (int i = 0; i < 40 && o.parameter(4) < 25; i++) {
                o.step(1);
            }
        }
        o.breakUnit(6, 's');
        o.step(9);
        boolean[] seen = new boolean[360];
        for (int i = 0; i < 720; i++) {
            int angle = round(o.world('a') + way);
            Check.same("rate", o.world('r'), way);
            o.step(1);
            Check.same("angle", o.world('a'), angle);
            seen[angle + 180] = true;
        }
        for (int i = 0; i < 360; i++) {
            Check.same("each angle was seen", seen[i], true);
        }
    }

    /** "0 to 1000, kept in this behind all of what follows". */
    private static void batteryIsKept() {
        for (int above : new int[] {-2, -1, 0, 1, 20}) {
            Orbithouse o = Check.near();
            o.step(100);
            Check.same("full", o.world('b'), 1000);
            o.step(1);
            Check.same("full", o.world('b'), 1000);
            int delta = deltaInSun(o);
            Check.same("more comes than goes", delta > 2, true);
            // 1000, by so many above or below.
            o.drain(Math.max(0, delta - above));
            o.step(1);
            Check.same("battery by " + above, o.world('b'), Math.min(1000, 1000 + above));
        }
        // Without SUN all that is used goes at once.
        Orbithouse o = Check.near();
        o.step(100);
        o.sky(0, 48);
        o.step(1);
        Check.same("14 less", o.world('b'), 986);
        Check.same("0 at least", o.drain(1000), 0);
        Check.same("0 at least", o.drain(1), 0);
        Check.refused("more than 1000", IllegalArgumentException.class, o, () -> o.drain(1001));
    }

    /** "-60 to 80, kept in this behind both": in SUN, with a heater. */
    private static void warmthIsKeptAbove() {
        for (int heater = 8; heater <= 9; heater++) {
            Orbithouse o = Check.near();
            Check.doneAs(o, 0, 30, 0, 7, 255);
            o.step(263 + heater - o.parameter(0));
            Check.doneAs(o, 0, 1, heater, 1);
            for (int i = 0; i < 40; i++) {
                int due = o.world('w') + (o.parameter(0) % 4 == 3 ? 3 : 0);
                o.step(1);
                Check.same("warmth", o.world('w'), Math.min(80, due));
            }
            Check.same("80", o.world('w'), 80);
            // Without SUN 1 less and 2 more: 80 still; without the heater 79.
            o.sky(0, 48);
            o.step(4);
            Check.same("80", o.world('w'), 80);
            Check.doneAs(o, 0, 1, heater, 0);
            o.step(4);
            Check.same("below 80", o.world('w') < 80, true);
        }
    }

    private static void warmthIsKeptBelow() {
        Orbithouse o = Check.near();
        o.sky(0, 48);
        o.drain(1000);
        o.step(280);
        Check.same("warmth", o.world('w'), -60);
        o.step(4);
        Check.same("warmth", o.world('w'), -60);
        // SUN in those ticks alone in which the warmth does not change.
        boolean isHeated = false;
        for (int i = 0; i < 40 && !isHeated; i++) {
            boolean changes = o.parameter(0) % 4 == 3;
            isHeated = changes && o.unit(8, 'o') == 1;
            o.sky(changes ? 0 : 96, 48);
            o.step(1);
            Check.same("warmth", o.world('w'), isHeated ? -59 : -60);
        }
        Check.same("a heater came on", isHeated, true);
    }

    /** "Its misses are C2 or more". */
    private static void missesByConstant() {
        for (int constant : new int[] {1, 2, 4, 10}) {
            for (int unit : new int[] {2, 4, 6, 10}) {
                Orbithouse o = Check.near();
                Check.doneAs(o, 0, 30, 0, 2, constant);
                o.breakUnit(unit, 'd');
                Check.go(o, constant - 1);
                Check.same("misses", o.unit(unit, 'm'), constant - 1);
                Check.same("fewer than C2", o.unit(unit, 'b'), 0);
                Check.same("on", o.unit(unit, 'o'), 1);
                o.step(1);
                Check.same("C2", o.unit(unit, 'b'), 1);
                Check.same("off", o.unit(unit, 'o'), 0);
                Check.same("misses", o.unit(unit, 'm'), constant);
                o.step(5);
                Check.same("it is not asked any more", o.unit(unit, 'm'), constant);
                Check.same("one event", Check.count(o, 1, 1), 1);
            }
        }
        // One answer makes them 0.
        Orbithouse o = Check.near();
        for (int i = 0; i < 5; i++) {
            o.breakUnit(6, 'd');
            o.step(2);
            Check.same("misses", o.unit(6, 'm'), 2);
            o.breakUnit(6, 'g');
            o.step(1);
            Check.same("misses", o.unit(6, 'm'), 0);
        }
        Check.same("good", o.unit(6, 'b'), 0);
    }

    /** C2 is 0: 0 misses are 0 or more, for each unit that is asked. */
    private static void noMissesAreEnough() {
        Orbithouse o = Check.near();
        Check.doneAs(o, 0, 30, 0, 2, 0);
        Check.same("not asked yet", o.parameter(9), 0);
        o.step(1);
        for (int unit = 2; unit < 15; unit++) {
            boolean isBad = unit < 8 || unit >= 10 && unit <= 12;
            Check.same("held bad " + unit, o.unit(unit, 'b'), isBad ? 1 : 0);
        }
        Check.same("SAFE", o.parameter(1), 0);
        Check.same("the wheel that was off", o.unit(13, 'o'), 1);
        o.step(1);
        Check.same("asked", o.unit(13, 'b'), 1);
        Check.same("sound", o.isSound(), true);
    }

    /** In NADIR, far from its aim, the wheels turn in each tick; the gyro is stuck from T 4 on. */
    private static Orbithouse still() {
        Orbithouse o = Check.near();
        Check.doneAs(o, 0, 3, 2);
        o.step(1);
        o.breakUnit(4, 's');
        return o;
    }

    /** "Its still count is 6 or more": 5 are not. */
    private static void stillCounts() {
        Orbithouse o = still();
        for (int i = 1; i <= 5; i++) {
            o.step(1);
            Check.same("still", o.unit(4, 's'), i);
            Check.same("good", o.unit(4, 'b'), 0);
        }
        o.step(1);
        Check.same("still", o.unit(4, 's'), 6);
        Check.same("bad", o.unit(4, 'b'), 1);
        Check.same("the other one", o.unit(5, 'o'), 1);
        Check.same("still of the other one", o.unit(5, 's'), 0);
        // With level 1 off it counts on, and as it is on it is enough.
        Orbithouse p = still();
        Check.doneAs(p, 0, 41, 1, 0);
        p.step(4);
        Check.same("still", p.unit(4, 's'), 6);
        Check.same("good", p.unit(4, 'b'), 0);
        Check.doneAs(p, 0, 41, 1, 1);
        Check.same("behind the asking of this tick", p.unit(4, 'b'), 0);
        p.step(1);
        Check.same("bad", p.unit(4, 'b'), 1);
        Check.same("good", p.unit(5, 'b'), 0);
    }

    /** What makes the still count 0. */
    private static void stillCountIsEnded() {
        int[][] commands = {{1, 4, 1}, {2, 4, 0}, {42}};
        for (int[] command : commands) {
            Orbithouse o = still();
            o.step(2);
            Check.same("still", o.unit(4, 's'), 2);
            Check.doneAs(o, 0, command[0], java.util.Arrays.copyOfRange(command, 1, command.length));
            Check.same("0 by " + command[0], o.unit(4, 's'), 0);
            Check.same("on", o.unit(4, 'o'), 1);
            o.step(1);
            Check.same("it counts anew", o.unit(4, 's'), 1);
        }
        // The wheels did not turn in the tick ahead.
        Orbithouse o = still();
        Check.doneAs(o, 0, 41, 1, 0);
        o.step(1);
        Check.same("still", o.unit(4, 's'), 3);
        o.breakUnit(12, 'd');
        o.step(1);
        Check.same("they turned in the tick ahead", o.unit(4, 's'), 4);
        o.step(1);
        Check.same("they did not", o.unit(4, 's'), 0);
        o.breakUnit(12, 'g');
        o.step(1);
        Check.same("they did not", o.unit(4, 's'), 0);
        o.step(1);
        Check.same("they did", o.unit(4, 's'), 1);
        // Put off, it is not asked, and keeps what it has; put on, it is 0.
        Check.doneAs(o, 0, 1, 4, 0);
        int still = o.unit(4, 's');
        o.step(3);
        Check.same("off", o.unit(4, 's'), still);
        Check.doneAs(o, 0, 1, 4, 1);
        Check.same("put on", o.unit(4, 's'), 0);
    }

    /** A gyro that answers what is true is still only if the rate that the wheels turned came back by itself. */
    private static void goodGyroIsNotStill() {
        Orbithouse o = Check.near();
        int turns = 0;
        int stills = 0;
        boolean turned = false;
        for (int i = 0; i < 6; i++) {
            Check.doneAs(o, 0, 3, 1 + i % 2);
            o.step(1);
            for (int t = 0; t < 60; t++) {
                int ahead = o.parameter(5);
                int rate = o.world('r') + (o.parameter(0) % 32 == 31 ? 1 : 0);
                int still = o.unit(4, 's');
                o.step(1);
                if (t > 0) {
                    boolean isStill = turned && rate == ahead;
                    Check.same("still", o.unit(4, 's'), isStill ? still + 1 : 0);
                    stills += isStill ? 1 : 0;
                }
                turned = o.world('r') != rate;
                turns += turned ? 1 : 0;
            }
        }
        Check.same("the wheels turned", turns > 20, true);
        Check.same("seldom still", stills < 5, true);
    }

    /** "If it answered ahead": the first answer of a gyro does not count, also if it is 0, and stuck. */
    private static void firstAnswerIsNotStill() {
        Orbithouse o = still();
        Check.doneAs(o, 0, 41, 1, 0);
        o.breakUnit(5, 's');
        Check.doneAs(o, 0, 1, 5, 1);
        Check.same("not asked yet", o.unit(5, 's'), 0);
        o.step(1);
        Check.same("its first answer", o.unit(5, 's'), 0);
        Check.same("the wheels turned all the time", o.unit(4, 's') > 4, true);
        o.step(1);
        Check.same("its second one", o.unit(5, 's'), 1);
    }

    /** "Less than C6 less 100", "more than C7 less 100": at T 7 the warmth is 11; the least and the most as well. */
    private static void heaterConstants() {
        int[][] cases = {{0, 255, 0, 0}, {255, 255, 0, 1}, {255, 0, 0, 0}, {0, 0, 1, 0}, {0, 255, 1, 1},
            {111, 255, 0, 0}, {112, 255, 0, 1}, {0, 111, 1, 1}, {0, 110, 1, 0}, {112, 111, 0, 1}, {112, 110, 0, 0}};
        for (int[] c : cases) {
            Orbithouse o = Check.near();
            Check.doneAs(o, 0, 30, 0, 7, c[1]);
            Check.doneAs(o, 0, 30, 0, 6, c[0]);
            Check.same("T", o.parameter(0), 4);
            Check.doneAs(o, 0, 1, 8, c[2]);
            Check.same("the warmth at T 6", o.world('w'), 11);
            Check.same("as the command tells", o.unit(8, 'o'), c[2]);
            o.step(1);
            Check.same("the warmth at T 7", o.world('w'), 11);
            Check.same("C6 " + c[0] + ", C7 " + c[1] + ", on " + c[2], o.unit(8, 'o'), c[3]);
            Check.same("one alone", o.unit(9, 'o'), 0);
        }
    }

    /** "The first one that is not held bad", of two; none, if both are. */
    private static void heatersHeldBad() {
        for (int how = 0; how < 4; how++) {
            Orbithouse o = Check.near();
            Check.doneAs(o, 0, 30, 0, 7, 255);
            Check.doneAs(o, 0, 2, 8, how % 2);
            Check.doneAs(o, 0, 2, 9, how / 2);
            Check.doneAs(o, 0, 30, 0, 6, 255);
            o.step(3);
            Check.same("heater 8", o.unit(8, 'o'), how % 2 == 0 ? 1 : 0);
            Check.same("heater 9", o.unit(9, 'o'), how == 1 ? 1 : 0);
        }
    }

    /** "If three or more of them are on and not dead": 2, 3 and 4 of four, dead or off. */
    private static void workingWheels() {
        for (int how = 0; how < 81; how++) {
            Orbithouse o = Check.near();
            o.breakUnit(4, 'd');
            Check.doneAs(o, 0, 41, 1, 0);
            Check.doneAs(o, 0, 1, 4, 0);
            o.breakUnit(4, 'g');
            int working = 0;
            int rest = how;
            for (int wheel = 10; wheel < 14; wheel++) {
                Check.doneAs(o, 0, 1, wheel, rest % 3 == 0 ? 0 : 1);
                o.breakUnit(wheel, rest % 3 == 1 ? 'd' : wheel == 11 ? 's' : 'g');
                working += rest % 3 == 2 ? 1 : 0;
                rest /= 3;
            }
            o.step(3);
            // The gyro is off; put on, the rate is measured, and the wheels turn if there are three.
            int rate = o.world('r');
            int angle = o.world('a');
            Check.same("far from 0, and not on its way", Math.abs(angle) >= 10 && rate == 0, true);
            Check.doneAs(o, 0, 1, 4, 1);
            Check.same("no rate was measured yet", o.world('r'), rate);
            o.step(1);
            Check.same("turned by " + working, o.world('r') != rate, working >= 3);
        }
    }

    /** What the wheels want, by how far away the aim is: a table, and not a division. */
    private static int wanted(int q) {
        int far = Math.abs(q);
        int amount = far == 0 ? 0 : far < 40 ? 1 : far < 60 ? 2 : far < 80 ? 3 : 4;
        return q < 0 ? -amount : amount;
    }

    /** "q, going round to -180 to 179", "h is q / 20, at most 4 and at least -4, but 1 or -1": all that q can be. */
    private static void turning() {
        Orbithouse o = Check.near();
        Check.doneAs(o, 0, 41, 1, 0);
        boolean[][] seen = new boolean[2][360];
        long random = 1;
        for (int i = 0; i < 3900; i++) {
            if (i % 190 == 100) {
                Check.tellFast(o, 3, 1 + i / 190 % 2);
            }
            random = random * 6364136223846793005L + 1442695040888963407L;
            // Without the third wheel it drifts on; with it, it turns toward its aim.
            boolean works = (random >>> 40) % 7 == 0;
            o.breakUnit(12, works ? 's' : 'd');
            int mode = o.parameter(1);
            int angle = round(o.world('a') + o.world('r'));
            int rate = keep(o.world('r') + (o.parameter(0) % 32 == 31 ? 1 : 0), -9, 9);
            int q = round((mode == 2 ? 60 : 0) - angle);
            if (works) {
                seen[mode - 1][q + 180] = true;
                rate += Integer.signum(wanted(q) - rate);
            }
            o.step(1);
            Check.same("angle", o.world('a'), angle);
            Check.same("rate by " + q, o.world('r'), rate);
        }
        int count = 0;
        for (int q = 0; q < 360; q++) {
            count += seen[0][q] || seen[1][q] ? 1 : 0;
        }
        Check.same("many of q were seen: " + count, count > 100, true);
        edgesOfTurning();
    }

    /** Each q by itself: the sensor is stuck at the angle that is due, and the rate comes to h, and stays there. */
    private static void edgesOfTurning() {
        for (int q : new int[] {-180, -179, -100, -99, -81, -80, -79, -61, -60, -59, -41, -40, -39, -21, -20, -19, -1, 0,
            1, 19, 20, 21, 39, 40, 41, 59, 60, 61, 79, 80, 81, 99, 100, 101, 179}) {
            for (int mode = 1; mode <= 2; mode++) {
                int due = round((mode == 2 ? 60 : 0) - q);
                Orbithouse o = stuckAt(due);
                Check.doneAs(o, 0, 3, mode);
                for (int i = 0; i < 40; i++) {
                    o.step(1);
                    Check.same("measured", o.parameter(4), due);
                    if (i >= 6) {
                        Check.same("rate by q of " + q + " in the mode " + mode, o.world('r'), wanted(q));
                    }
                }
            }
        }
    }

    /**
     * By a first sensor that is stuck it turns on by -1 through all angles; as the second one has answered what is
     * due, that is stuck too, and the first one is dead.
     */
    private static Orbithouse stuckAt(int due) {
        Orbithouse o = Check.near();
        Check.doneAs(o, 0, 41, 1, 0);
        Check.doneAs(o, 0, 41, 3, 0);
        Check.doneAs(o, 0, 1, 2, 0);
        Check.doneAs(o, 0, 1, 7, 1);
        o.breakUnit(6, 's');
        o.step(1);
        for (int i = 0; i < 360 && o.world('a') != due; i++) {
            o.step(1);
        }
        o.breakUnit(7, 's');
        o.breakUnit(6, 'd');
        return o;
    }

    /** "If that was measured in this tick, 0 otherwise": without SUN the rate is brought to 0. */
    private static void withoutAngle() {
        Orbithouse o = Check.near();
        Check.doneAs(o, 0, 3, 2);
        o.step(2);
        Check.same("it turns", o.world('r'), 1);
        o.sky(0, 48);
        for (int t = 0; t < 4; t++) {
            o.step(1);
        }
        Check.same("no more", o.world('r'), 0);
        // SUN in one tick alone: one turn there, one back.
        o.sky(o.parameter(0) + 2, 48);
        o.step(1);
        Check.same("turned", o.world('r'), 1);
        o.sky(0, 48);
        o.step(1);
        Check.same("turned back", o.world('r'), 0);
    }

    /** "The battery is less than 10 times C0". */
    private static void batteryOfSafe() {
        int[][] cases = {{40, 400, 0}, {40, 399, 1}, {0, 1, 0}, {1, 10, 0}, {1, 9, 1}, {70, 700, 0}, {70, 699, 1}};
        for (int[] c : cases) {
            Orbithouse o = Check.near();
            Check.doneAs(o, 0, 30, 0, 0, c[0]);
            darkTick(o, c[1]);
            Check.same("C0 " + c[0] + ", battery " + c[1], o.parameter(1), 1 - c[2]);
            o.sky(96, 48);
            o.step(2);
        }
        Orbithouse o = Check.near();
        o.step(60);
        Check.doneAs(o, 0, 30, 0, 0, 100);
        Check.same("1000 is not less than 1000", o.parameter(1), 1);
        o.drain(deltaInSun(o) + 1);
        o.step(1);
        Check.same("battery", o.world('b'), 999);
        Check.same("999 is", o.parameter(1), 0);
        // With 101 and more it is always less.
        Orbithouse p = Check.near();
        p.step(60);
        Check.doneAs(p, 0, 30, 0, 0, 101);
        Check.same("1000", p.world('b'), 1000);
        Check.same("less than 1010", p.parameter(1), 0);
    }

    /** "Fewer than three wheels are not held bad": whether they are on does not matter. */
    private static void wheelsOfSafe() {
        for (int bad = 0; bad < 16; bad++) {
            Orbithouse o = Check.near();
            Check.doneAs(o, 0, 41, 3, 0);
            for (int i = 0; i < 4; i++) {
                Check.doneAs(o, 0, 1, 10 + i, 0);
                Check.doneAs(o, 0, 2, 10 + i, bad >> i & 1);
            }
            Check.doneAs(o, 0, 41, 3, 1);
            Check.same("SAFE by " + bad, o.parameter(1), Integer.bitCount(bad) > 1 ? 0 : 1);
            for (int i = 0; i < 4; i++) {
                boolean isOn = Integer.bitCount(bad) > 1 && (bad >> i & 1) == 0;
                Check.same("wheel " + i, o.unit(10 + i, 'o'), isOn ? 1 : 0);
            }
        }
    }

    /** "Less than 10 times C1: off"; "not less than 10 times C0 and none is on: the first one is put on". */
    private static void transmittersInSafe() {
        for (int battery = 249; battery <= 250; battery++) {
            Orbithouse o = Check.near();
            Check.doneAs(o, 0, 3, 0);
            darkTick(o, battery);
            Check.same("transmitter at " + battery, o.unit(2, 'o'), battery == 249 ? 0 : 1);
        }
        for (int battery = 399; battery <= 400; battery++) {
            Orbithouse o = Check.near();
            Check.doneAs(o, 0, 3, 0);
            darkTick(o, 249);
            Check.same("off", o.unit(2, 'o'), 0);
            for (int i = 0; i < 40 && o.world('b') + deltaInSun(o) < battery; i++) {
                o.sky(96, 48);
                o.step(1);
            }
            sunnyTick(o, battery);
            Check.same("transmitter at " + battery, o.unit(2, 'o'), battery == 400 ? 1 : 0);
            Check.same("the other one", o.unit(3, 'o'), 0);
        }
        // One that is held bad, and both.
        for (int bad = 1; bad <= 2; bad++) {
            Orbithouse o = Check.near();
            Check.doneAs(o, 0, 2, 2, 1);
            Check.doneAs(o, 0, 2, 3, bad - 1);
            Check.doneAs(o, 0, 3, 0);
            Check.same("transmitter 2", o.unit(2, 'o'), 0);
            Check.same("transmitter 3", o.unit(3, 'o'), 2 - bad);
        }
    }

    /** "The battery is less than 10 times C3". */
    private static void batteryToLeaveSafe() {
        for (int constant : new int[] {0, 45, 50}) {
            for (int less = 0; less < 2; less++) {
                Orbithouse o = Check.near();
                Check.doneAs(o, 0, 30, 0, 3, constant);
                Check.doneAs(o, 0, 3, 0);
                o.step(30);
                Check.tellFast(o, 3, 2);
                o.step(1);
                int battery = Math.max(1, 10 * constant - less);
                int made = o.world('n');
                darkTick(o, battery);
                boolean leaves = battery >= 10 * constant;
                // By a C3 of 0 it leaves, and level 3 makes it SAFE again in the same tick: event 3, and event 2.
                Check.same("mode with " + battery, o.parameter(1), leaves && constant > 0 ? 2 : 0);
                Check.same("reports", o.world('n') - made, constant == 0 ? 3 : 2);
                // The transmitter is put on again as the battery is 400.
                o.sky(96, 48);
                o.step(60);
                Check.same("event 3", Check.count(o, 1, 3), leaves ? 1 : 0);
                Check.same("event 2", Check.count(o, 1, 2), constant == 0 ? 2 : 1);
            }
        }
    }

    /** "SAFE for less than C4 ticks". */
    private static void ticksToLeaveSafe() {
        for (int constant : new int[] {0, 2, 20, 21, 60}) {
            for (int less = 0; less < 2; less++) {
                int ticks = constant - less;
                Orbithouse o = Check.near();
                Check.doneAs(o, 0, 30, 0, 4, constant);
                if (ticks < 2) {
                    // Two commands that arrive together: the second one is done a tick behind.
                    int[] orders = Check.together(o, new int[] {3, 0}, new int[] {3, 1});
                    o.step(2);
                    Check.same("C4 of " + constant, o.endOf(orders[1]), constant <= 1 ? 0 : 4);
                    continue;
                }
                Check.doneAs(o, 0, 3, 0);
                Check.go(o, ticks - 2);
                Check.doneAs(o, less == 1 ? 4 : 0, 3, 1);
                Check.same("mode", o.parameter(1), 1 - less);
            }
        }
    }

    /** It is SAFE since the tick in which level 3 made it so; coming to be SAFE again begins it anew. */
    private static void safeByLevelThree() {
        for (int ticks = 19; ticks <= 20; ticks++) {
            Orbithouse o = Check.near();
            darkTick(o, 399);
            Check.same("SAFE", o.parameter(1), 0);
            o.sky(96, 48);
            o.step(ticks - 2);
            Check.same("enough by now", o.world('b') > 500, true);
            Check.doneAs(o, ticks == 19 ? 4 : 0, 3, 1);
            if (ticks == 20) {
                Check.doneAs(o, 0, 3, 0);
                o.step(17);
                Check.doneAs(o, 4, 3, 2);
                Check.doneAs(o, 0, 3, 2);
            }
        }
    }

    /** "Their number divided by 15". */
    private static void shareOfUnits() {
        Orbithouse o = Check.near();
        Check.doneAs(o, 0, 30, 0, 7, 255);
        int on = 8;
        for (int unit = 2; unit < 15; unit++) {
            on += o.unit(unit, 'o') == 1 ? 0 : 1;
            Check.doneAs(o, 0, 1, unit, 1);
            Check.near("share", o.onShare(), (float) on / 15f);
        }
        Check.near("all", o.onShare(), 1f);
        o.sky(0, 48);
        o.drain(1000);
        o.step(1);
        Check.near("receivers alone", o.onShare(), 2f / 15f);
        Check.near("dead or not", o.breakUnit(0, 'd') ? o.onShare() : 0f, 2f / 15f);
    }

    private static void meanOfBattery() {
        Orbithouse o = Check.near();
        Check.refused("T is 0", ArithmeticException.class, o, o::meanBattery);
        o.drain(13);
        Check.refused("T is 0", ArithmeticException.class, o, o::meanBattery);
        o.step(1);
        Check.near("of one tick", o.meanBattery(), 800d);
        o.step(1);
        Check.near("of two ticks", o.meanBattery(), (800d + o.world('b')) / 2);
        double mean = o.meanBattery();
        o.drain(1000);
        Check.near("at the ends of ticks alone", o.meanBattery(), mean);
        Orbithouse p = new Orbithouse();
        long sum = 0;
        for (int t = 1; t <= 4000; t++) {
            p.step(1);
            sum += p.world('b');
        }
        Check.near("of 4000 ticks", p.meanBattery(), (double) sum / 4000d);
    }

    /** "To be stuck matters to gyros and sun sensors alone." */
    private static void stuckMattersToFour() {
        for (int unit = 0; unit < 15; unit++) {
            Orbithouse o = Check.near();
            Orbithouse twin = Check.near();
            for (Orbithouse one : new Orbithouse[] {o, twin}) {
                Check.doneAs(one, 0, 30, 0, 6, 120);
                Check.doneAs(one, 0, 3, 2);
            }
            Check.same("it was good", o.breakUnit(unit, 's'), true);
            Check.same("it was not", o.breakUnit(unit, 's'), false);
            o.step(30);
            twin.step(30);
            int order = Check.tellInOrder(o, 0);
            Check.tellInOrder(twin, 0);
            o.step(5);
            twin.step(5);
            Check.same("commands come", o.endOf(order), 0);
            Check.same("as if it was good: " + unit, o.checksum() == twin.checksum(), unit < 4 || unit == 5 || unit > 6);
        }
    }
}
