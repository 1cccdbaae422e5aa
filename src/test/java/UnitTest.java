/** Parts 10 and 11 with kinds 1 to 3, 41 and 42: what is around, units, wheels, levels, SAFE; promises 18, 21, 44 to 46. */
public final class UnitTest {
    public static void main(String[] args) {
        driftWithoutWheels();
        powerOfUnits();
        batteryBySun();
        warmth();
        heatersByWarmth();
        missesAndTheOtherOne();
        missesOfEach();
        constantForMisses();
        withoutLevelOne();
        otherIsAskedInItsTurn();
        stuckGyro();
        stuckGyroThatTurnsSeldom();
        stuckSensor();
        sensorsWithoutSun();
        firstAnswerCounts();
        wheelsBySmallAngles();
        wheelsByThree();
        nadir();
        whySafe();
        levelThreeOff();
        becomingSafe();
        transmittersInSafe();
        leavingSafe();
        oneOfTwoIsEnough();
        deadGyroIsNotStill();
        farAngles();
        Check.finish("UnitTest");
    }

    private static int round(int angle) {
        return Math.floorMod(angle + 180, 360) - 180;
    }

    private static int gain(Orbithouse o) {
        return o.world('s') == 1 ? 30 - Math.abs(o.world('a')) / 6 : 0;
    }

    /** What is used in the next tick, while the board is not out. */
    private static int used(Orbithouse o) {
        int[] uses = {0, 0, 5, 5, 1, 1, 1, 1, 3, 3, 1, 1, 1, 1, 6};
        int used = 4;
        for (int unit = 2; unit < 15; unit++) {
            used += o.unit(unit, 'o') == 1 ? uses[unit] : 0;
        }
        return used;
    }

    private static void driftWithoutWheels() {
        Orbithouse o = Check.near();
        for (int wheel = 10; wheel < 13; wheel++) {
            Check.doneAs(o, 0, 1, wheel, 0);
        }
        for (int t = 0; t < 250; t++) {
            int angle = o.world('a');
            int rate = o.world('r');
            o.step(1);
            Check.same("angle", o.world('a'), round(angle + rate));
            Check.same("rate", o.world('r'), Math.min(9, rate + (o.parameter(0) % 32 == 0 ? 1 : 0)));
        }
        o.step(100);
        Check.same("9 at most", o.world('r'), 9);
        Check.same("as it is measured", o.parameter(5), 9);
        Check.same("as it is measured", o.parameter(4), o.world('a'));
    }

    private static void powerOfUnits() {
        int[] uses = {0, 0, 5, 5, 1, 1, 1, 1, 3, 3, 1, 1, 1, 1, 6};
        for (int unit = 2; unit < 15; unit++) {
            Orbithouse o = Check.near();
            // Heaters stay on below a C7 of 255.
            Check.doneAs(o, 0, 30, 0, 7, 255);
            Check.doneAs(o, 0, 1, unit, 1);
            Check.doneAs(o, 0, 41, 3, 0);
            o.sky(0, 48);
            int due = 14 + (unit == 2 || unit == 4 || unit == 6 || unit >= 10 && unit <= 12 ? 0 : uses[unit]);
            int before = o.world('b');
            o.step(1);
            Check.same("used with " + unit, before - o.world('b'), due);
            Check.doneAs(o, 0, 1, unit, 0);
            before = o.world('b');
            o.step(1);
            Check.same("used without " + unit, before - o.world('b'), due - uses[unit]);
        }
        // A board that is out uses nothing; it is out until 50 are there.
        Orbithouse o = Check.near();
        o.sky(0, 48);
        o.drain(1000);
        o.step(1);
        o.sky(96, 48);
        int before = o.world('b');
        o.step(1);
        Check.same("out", o.board(), 'o');
        Check.same("gained", o.world('b') - before, gain(o) - 2);
    }

    private static void batteryBySun() {
        Orbithouse o = new Orbithouse();
        o.drain(500);
        for (int t = 1; t <= 120; t++) {
            int due = o.world('b') - used(o);
            o.step(1);
            Check.same("battery at " + t, o.world('b'), Math.max(0, Math.min(1000, due + gain(o))));
        }
        // Far angles: without wheels the satellite turns on and on.
        Orbithouse p = Check.near();
        for (int wheel = 10; wheel < 13; wheel++) {
            Check.doneAs(p, 0, 1, wheel, 0);
        }
        p.step(300);
        p.drain(300);
        int least = 30;
        for (int t = 0; t < 60; t++) {
            int due = p.world('b') - used(p);
            p.step(1);
            least = Math.min(least, gain(p));
            Check.same("battery", p.world('b'), Math.max(0, Math.min(1000, due + gain(p))));
        }
        Check.same("far angles", least < 3, true);
        Orbithouse q = Check.near();
        q.step(60);
        Check.same("1000 at most", q.world('b'), 1000);
    }

    private static void warmth() {
        Orbithouse o = Check.near();
        for (int t = 1; t <= 300; t++) {
            o.step(1);
            Check.same("warmth at " + t, o.world('w'), Math.min(80, 10 + t / 4));
        }
        Orbithouse p = Check.near();
        p.sky(0, 48);
        p.breakUnit(8, 'd');
        p.breakUnit(9, 'd');
        for (int t = 1; t <= 80; t++) {
            p.step(1);
            Check.same("warmth at " + t, p.world('w'), 10 - t / 4);
            if (p.world('b') < 400) {
                p.sky(96, 48);
                p.step(4);
                break;
            }
        }
        // Out of power it grows cold, down to -60.
        Orbithouse q = Check.near();
        q.sky(0, 48);
        q.drain(1000);
        q.step(285);
        Check.same("cold", q.world('w'), -60);
        q.step(4);
        Check.same("-60 at least", q.world('w'), -60);
        Check.same("true", q.isTrue(), true);
    }

    private static void heatersByWarmth() {
        Orbithouse p = Check.near();
        // C6 of 112: below 12 a heater is put on; C7 of 114: above 14 both are off.
        Check.doneAs(p, 0, 30, 0, 7, 114);
        Check.doneAs(p, 0, 30, 0, 6, 112);
        Check.same("not asked yet", p.unit(8, 'o'), 0);
        p.step(1);
        Check.same("heater", p.unit(8, 'o'), 1);
        Check.same("one alone", p.unit(9, 'o'), 0);
        int before = p.world('w');
        p.step(4);
        Check.same("3 more in SUN", p.world('w'), before + 3);
        for (int t = 0; t < 20 && p.world('w') <= 14; t++) {
            Check.same("on at " + p.world('w'), p.unit(8, 'o'), 1);
            p.step(1);
        }
        Check.same("off", p.unit(8, 'o'), 0);
        // The first one that is not held bad; of no use if it is dead.
        Check.doneAs(p, 0, 30, 0, 7, 255);
        Check.doneAs(p, 0, 2, 8, 1);
        Check.doneAs(p, 0, 30, 0, 6, 200);
        p.step(1);
        Check.same("heater 9", p.unit(9, 'o'), 1);
        Check.same("heater 8", p.unit(8, 'o'), 0);
        Check.doneAs(p, 0, 41, 1, 0);
        p.breakUnit(9, 'd');
        before = p.world('w');
        p.step(4);
        Check.same("dead heater", p.world('w'), before + 1);
        p.breakUnit(9, 's');
        before = p.world('w');
        p.step(4);
        Check.same("stuck heater", p.world('w'), before + 3);
        Check.doneAs(p, 0, 1, 9, 1);
        p.sky(0, 48);
        before = p.world('w');
        p.step(4);
        Check.same("1 more without SUN", p.world('w'), before + 1);
        heaterEdges();
    }

    private static void heaterEdges() {
        for (int more = 0; more < 2; more++) {
            Orbithouse o = Check.near();
            Check.doneAs(o, 0, 30, 0, 7, 200);
            // At T 6 the warmth is 11, so it is in the next tick.
            Check.doneAs(o, 0, 30, 0, 6, 111 + more);
            o.step(1);
            Check.same("warmth", o.world('w'), 11);
            Check.same("below C6 " + more, o.unit(8, 'o'), more);
            Orbithouse p = Check.near();
            Check.doneAs(p, 0, 30, 0, 7, 110 + more);
            Check.doneAs(p, 0, 1, 9, 1);
            p.step(1);
            Check.same("warmth", p.world('w'), 11);
            Check.same("above C7 " + more, p.unit(9, 'o'), more);
        }
    }

    private static void missesAndTheOtherOne() {
        for (int unit = 2; unit < 8; unit += 2) {
            Orbithouse o = Check.near();
            o.breakUnit(unit, 'd');
            o.step(1);
            Check.same("misses", o.unit(unit, 'm'), 1);
            o.step(1);
            Check.same("misses", o.unit(unit, 'm'), 2);
            Check.same("on", o.unit(unit, 'o'), 1);
            Check.same("the other one", o.unit(unit + 1, 'o'), 0);
            o.step(1);
            Check.same("misses", o.unit(unit, 'm'), 3);
            Check.same("bad", o.unit(unit, 'b'), 1);
            Check.same("off", o.unit(unit, 'o'), 0);
            Check.same("the other one", o.unit(unit + 1, 'o'), 1);
            o.step(2);
            Check.report("event 1", o, 1, 1, unit);
            o.breakUnit(unit + 1, 'd');
            o.step(5);
            Check.same("both bad", o.unit(unit + 1, 'b'), 1);
            Check.same("none is put on", o.unit(unit, 'o'), 0);
            Check.same("sound", o.isSound(), true);
        }
        Orbithouse o = Check.near();
        o.breakUnit(4, 'd');
        o.step(2);
        o.breakUnit(4, 'g');
        o.step(1);
        Check.same("it answers again", o.unit(4, 'm'), 0);
        o.breakUnit(10, 'd');
        o.step(5);
        Check.same("wheel", o.unit(10, 'b'), 1);
        Check.same("a wheel has no other one", o.unit(11, 'o') + o.unit(13, 'o'), 1);
    }

    private static void missesOfEach() {
        for (int unit = 2; unit < 15; unit++) {
            Orbithouse o = Check.near();
            Check.doneAs(o, 0, 30, 0, 7, 255);
            Check.doneAs(o, 0, 1, unit, 1);
            o.breakUnit(unit, 'd');
            o.step(3);
            Check.same("bad " + unit, o.unit(unit, 'b'), 1);
            Check.same("off " + unit, o.unit(unit, 'o'), 0);
            if (unit < 10) {
                Check.same("the other one of " + unit, o.unit(unit % 2 == 0 ? unit + 1 : unit - 1, 'o'), 1);
            } else if (unit == 10) {
                Check.same("no other one", o.unit(13, 'o'), 0);
            }
        }
    }

    private static void constantForMisses() {
        Orbithouse o = Check.near();
        Check.doneAs(o, 0, 30, 0, 2, 5);
        o.breakUnit(6, 'd');
        o.step(4);
        Check.same("not yet", o.unit(6, 'b'), 0);
        o.step(1);
        Check.same("bad", o.unit(6, 'b'), 1);
    }

    private static void withoutLevelOne() {
        Orbithouse o = Check.near();
        Check.doneAs(o, 0, 41, 1, 0);
        Check.same("level", o.isOn('l'), false);
        o.breakUnit(4, 'd');
        o.step(20);
        Check.same("misses", o.unit(4, 'm'), 20);
        Check.same("not bad", o.unit(4, 'b'), 0);
        Check.doneAs(o, 0, 41, 1, 1);
        o.step(1);
        Check.same("bad", o.unit(4, 'b'), 1);
    }

    private static void otherIsAskedInItsTurn() {
        Orbithouse o = Check.near();
        o.breakUnit(4, 'd');
        o.breakUnit(5, 'd');
        o.step(2);
        Check.same("off", o.unit(5, 'm'), 0);
        o.step(1);
        Check.same("asked in the same tick", o.unit(5, 'm'), 1);
        o.step(2);
        Check.same("bad", o.unit(5, 'b'), 1);
        // The lower one of two is asked in the next tick.
        Orbithouse p = Check.near();
        Check.doneAs(p, 0, 1, 5, 1);
        Check.doneAs(p, 0, 1, 4, 0);
        p.breakUnit(4, 'd');
        p.breakUnit(5, 'd');
        p.step(3);
        Check.same("put on", p.unit(4, 'o'), 1);
        Check.same("not asked yet", p.unit(4, 'm'), 0);
        p.step(1);
        Check.same("asked", p.unit(4, 'm'), 1);
    }

    private static void stuckGyro() {
        Orbithouse o = Check.near();
        // In NADIR the wheels turn on and on.
        Check.doneAs(o, 0, 3, 2);
        o.step(1);
        o.breakUnit(4, 's');
        int last = o.parameter(5);
        // It answered ahead, and the wheels turned in each tick ahead: the rate is to be 2 and more.
        for (int due = 1; due < 6; due++) {
            o.step(1);
            Check.same("still", o.unit(4, 's'), due);
            Check.same("measured", o.parameter(5), last);
            Check.same("not bad yet", o.unit(4, 'b'), 0);
        }
        o.step(1);
        Check.same("still", o.unit(4, 's'), 6);
        Check.same("bad", o.unit(4, 'b'), 1);
        Check.same("the other one", o.unit(5, 'o'), 1);
        // It answered ahead of being held bad: what it answered is the measured rate of this tick.
        Check.same("measured", o.parameter(5), last);
        o.step(1);
        Check.same("measured", o.parameter(5) == last, false);
        Check.doneAs(o, 0, 42);
        Check.same("still counts are 0", o.unit(4, 's'), 0);
        o.step(2);
        Check.report("event 1", o, 1, 1, 4);
    }

    private static void stuckGyroThatTurnsSeldom() {
        // A gyro that never answered is stuck with 0.
        Orbithouse o = Check.near();
        Check.doneAs(o, 0, 1, 4, 0);
        o.step(40);
        o.breakUnit(5, 's');
        Check.doneAs(o, 0, 1, 5, 1);
        o.step(1);
        Check.same("0", o.parameter(5), 0);
        // Without turning wheels it never counts.
        for (int wheel = 10; wheel < 13; wheel++) {
            Check.doneAs(o, 0, 1, wheel, 0);
        }
        o.step(20);
        Check.same("still", o.unit(5, 's'), 0);
        Check.same("not bad", o.unit(5, 'b'), 0);
        Check.same("0", o.parameter(5), 0);
    }

    private static void stuckSensor() {
        Orbithouse o = Check.near();
        o.step(1);
        o.breakUnit(6, 's');
        int last = o.parameter(4);
        o.sky(0, 48);
        for (int t = 0; t < 12; t++) {
            o.step(1);
            Check.same("measured also without SUN", o.parameter(4), last);
        }
        Check.same("not bad", o.unit(6, 'b'), 0);
        Check.same("misses", o.unit(6, 'm'), 0);
        // The wheels believe it: the angle goes away.
        Check.same("angle", o.world('a') == last, false);
        Orbithouse p = Check.near();
        p.breakUnit(6, 's');
        p.step(5);
        Check.same("0 if it never answered", p.parameter(4), 0);
        // By a measured angle of 0 nothing is to turn.
        Check.same("angle", p.world('a'), 20);
    }

    private static void sensorsWithoutSun() {
        Orbithouse o = Check.near();
        o.sky(0, 48);
        o.step(5);
        Check.same("nothing measured", o.parameter(4), 0);
        Check.same("no misses", o.unit(6, 'm'), 0);
        // Without an angle the rate is brought to 0: it is.
        Check.same("rate", o.world('r'), 0);
        Check.same("angle", o.world('a'), 20);
        o.step(27);
        // T 32: the rate was 1, and the wheels brought it back.
        Check.same("rate", o.world('r'), 0);
        o.sky(96, 48);
        o.step(1);
        Check.same("measured", o.parameter(4), 20);
        Check.same("turns", o.world('r'), -1);
        o.sky(0, 48);
        o.step(1);
        Check.same("angle", o.world('a'), 19);
        Check.same("measured last", o.parameter(4), 20);
        Check.same("brought to 0", o.world('r'), 0);
    }

    private static void firstAnswerCounts() {
        Orbithouse o = Check.near();
        Check.doneAs(o, 0, 1, 7, 1);
        Check.doneAs(o, 0, 1, 5, 1);
        o.breakUnit(7, 's');
        o.breakUnit(5, 's');
        o.step(3);
        Check.same("angle by 6", o.parameter(4), o.world('a'));
        o.breakUnit(6, 'd');
        Check.doneAs(o, 0, 41, 1, 0);
        int stuck = o.parameter(4);
        o.step(3);
        Check.same("angle by 7", o.parameter(4), stuck);
    }

    private static void wheelsBySmallAngles() {
        Orbithouse o = new Orbithouse();
        // By hand: the angle 20 wants -1, then angles below 20 want -1 too, until it is 0.
        int angle = 20;
        int rate = 0;
        for (int t = 1; t <= 30; t++) {
            angle += rate;
            int q = -angle;
            int h = Math.max(-4, Math.min(4, q / 20));
            h = h == 0 ? Integer.signum(q) : h;
            rate += Integer.signum(h - rate);
            o.step(1);
            Check.same("angle at " + t, o.world('a'), angle);
            Check.same("rate at " + t, o.world('r'), rate);
        }
        Check.same("it came to 0", angle, 0);
    }

    private static void wheelsByThree() {
        for (int good = 2; good <= 3; good++) {
            Orbithouse o = Check.near();
            Check.doneAs(o, 0, 41, 1, 0);
            o.step(30);
            Check.same("angle", o.world('a'), 0);
            Check.doneAs(o, 0, 1, 13, 1);
            o.breakUnit(13, 's');
            for (int wheel = 10; wheel < 14 - good; wheel++) {
                o.breakUnit(wheel, 'd');
            }
            o.step(64 - o.parameter(0));
            Check.same("rate", o.world('r'), good == 3 ? 0 : 1);
            o.step(20);
            Check.same("turned back", o.world('r') == 0, good == 3);
            Check.doneAs(o, 0, 41, 3, 0);
        }
        // Without a rate that is measured they do nothing.
        Orbithouse o = Check.near();
        Check.doneAs(o, 0, 1, 4, 0);
        int rate = o.world('r');
        o.step(20);
        Check.same("rate", o.world('r'), rate);
    }

    private static void nadir() {
        Orbithouse o = Check.near();
        Check.doneAs(o, 0, 3, 2);
        Check.same("mode", o.parameter(1), 2);
        int angle = o.world('a');
        int rate = o.world('r');
        for (int t = 0; t < 60; t++) {
            angle = round(angle + rate);
            if (o.parameter(0) % 32 == 31) {
                rate++;
            }
            int q = round(60 - angle);
            int h = Math.max(-4, Math.min(4, q / 20));
            h = h == 0 ? Integer.signum(q) : h;
            rate += Integer.signum(h - rate);
            o.step(1);
            Check.same("angle", o.world('a'), angle);
            Check.same("rate", o.world('r'), rate);
        }
        Check.same("near 60", Math.abs(o.world('a') - 60) < 3, true);
        Check.doneAs(o, 0, 3, 1);
        Check.same("mode", o.parameter(1), 1);
        o.step(80);
        Check.same("near 0", Math.abs(o.world('a')) < 3, true);
        Check.same("no event 3", Check.count(o, 1, 3), 0);
    }

    private static void whySafe() {
        for (int why = 1; why <= 4; why++) {
            Orbithouse o = Check.near();
            if (why == 1) {
                o.sky(0, 48);
                o.drain(o.world('b') - 400 - used(o));
                o.step(1);
                Check.same("400 is not less", o.world('b'), 400);
                Check.same("mode", o.parameter(1), 1);
                o.step(1);
            } else if (why < 4) {
                Check.doneAs(o, 0, 2, 2 * why, 1);
                Check.same("one is not enough", o.parameter(1), 1);
                Check.doneAs(o, 0, 2, 2 * why + 1, 1);
            } else {
                Check.doneAs(o, 0, 2, 13, 1);
                Check.same("one is not enough", o.parameter(1), 1);
                Check.doneAs(o, 0, 2, 10, 1);
            }
            Check.same("mode", o.parameter(1), 0);
            o.step(4);
            Check.report("event 2", o, 1, 2, why);
            o.step(30);
            Check.same("once", Check.count(o, 1, 2), 1);
        }
        // The first of these tells why.
        Orbithouse o = Check.near();
        Check.doneAs(o, 0, 41, 3, 0);
        Check.same("level", o.isOn('n'), false);
        int[] bad = {10, 11, 7, 6, 5, 4};
        for (int unit : bad) {
            Check.doneAs(o, 0, 2, unit, 1);
        }
        Check.doneAs(o, 0, 41, 3, 1);
        o.step(4);
        Check.report("why", o, 1, 2, 2);
        Orbithouse p = Check.near();
        Check.doneAs(p, 0, 3, 0);
        p.step(3);
        Check.report("by a command", p, 1, 2, 0);
        Check.doneAs(p, 0, 3, 0);
        p.step(3);
        Check.same("nothing is done in SAFE", Check.count(p, 1, 2), 1);
    }

    private static void levelThreeOff() {
        Orbithouse o = Check.near();
        Check.doneAs(o, 0, 41, 3, 0);
        o.sky(0, 48);
        o.drain(o.world('b') - 300);
        o.step(3);
        Check.same("mode", o.parameter(1), 1);
        Check.same("no care of transmitters", o.unit(2, 'o'), 1);
    }

    private static void becomingSafe() {
        Orbithouse o = Check.near();
        Check.doneAs(o, 0, 1, 14, 1);
        Check.doneAs(o, 0, 7, 1);
        Check.doneAs(o, 0, 13, 1);
        Check.doneAs(o, 0, 1, 4, 0);
        Check.doneAs(o, 0, 2, 4, 1);
        Check.doneAs(o, 0, 1, 6, 0);
        Check.doneAs(o, 0, 1, 11, 0);
        Check.doneAs(o, 0, 2, 12, 1);
        o.breakUnit(10, 'd');
        o.step(1);
        Check.doneAs(o, 0, 3, 0);
        Check.same("schedule", o.isOn('s'), false);
        Check.same("actions", o.isOn('a'), false);
        int[] on = {1, 1, 1, 0, 0, 1, 1, 0, 0, 0, 0, 1, 0, 1, 0};
        for (int i = 0; i < 15; i++) {
            if (i != 10) {
                Check.same("unit " + i, o.unit(i, 'o'), on[i]);
            }
        }
        // The dead wheel had misses, which were made 0 as it was put on, or was held bad ahead.
        Check.same("misses", o.unit(10, 'b') == 1 || o.unit(10, 'm') == 0, true);
        Orbithouse p = Check.near();
        Check.doneAs(p, 0, 1, 7, 1);
        Check.doneAs(p, 0, 3, 0);
        Check.same("both stay", p.unit(6, 'o') + p.unit(7, 'o'), 2);
        Check.same("one is enough", p.unit(5, 'o'), 0);
    }

    private static void transmittersInSafe() {
        Orbithouse o = Check.near();
        Check.doneAs(o, 0, 3, 0);
        Check.doneAs(o, 0, 1, 3, 1);
        o.sky(0, 48);
        o.drain(o.world('b') - 250 - used(o));
        o.step(1);
        Check.same("battery", o.world('b'), 250);
        Check.same("250 is not less", o.unit(2, 'o') + o.unit(3, 'o'), 2);
        o.step(1);
        Check.same("both are off", o.unit(2, 'o') + o.unit(3, 'o'), 0);
        o.sky(96, 48);
        for (int t = 0; t < 40 && o.world('b') < 400; t++) {
            Check.same("off at " + o.world('b'), o.unit(2, 'o') + o.unit(3, 'o'), 0);
            o.step(1);
        }
        Check.same("the first one is on", o.unit(2, 'o'), 1);
        Check.same("it alone", o.unit(3, 'o'), 0);
        // The first one that is not held bad, also with level 3 off.
        Orbithouse p = Check.near();
        Check.doneAs(p, 0, 2, 2, 1);
        Check.doneAs(p, 0, 41, 3, 0);
        Check.doneAs(p, 0, 3, 0);
        Check.same("transmitter 3", p.unit(3, 'o'), 1);
        Check.same("transmitter 2", p.unit(2, 'o'), 0);
        // By C0 and C1 as they are read.
        Orbithouse q = Check.near();
        Check.doneAs(q, 0, 30, 0, 1, 90);
        Check.doneAs(q, 0, 30, 0, 0, 80);
        Check.doneAs(q, 0, 3, 0);
        q.drain(q.world('b') - 700);
        q.step(1);
        Check.same("off below 10 C1", q.unit(2, 'o'), 0);
    }

    private static void leavingSafe() {
        Orbithouse o = Check.near();
        Check.doneAs(o, 0, 3, 0);
        int since = o.parameter(0);
        o.step(since + 17 - o.parameter(0));
        // Done 19 ticks behind.
        Check.doneAs(o, 4, 3, 1);
        o.step(1);
        Check.doneAs(o, 0, 3, 2);
        Check.same("mode", o.parameter(1), 2);
        o.step(3);
        Check.report("event 3", o, 1, 3, 2);
        Check.doneAs(o, 0, 3, 1);
        o.step(3);
        Check.same("from SAFE alone", Check.count(o, 1, 3), 1);
        Orbithouse p = Check.near();
        Check.doneAs(p, 0, 3, 0);
        p.step(18);
        // 20 ticks behind.
        Check.doneAs(p, 0, 3, 1);
        Orbithouse q = Check.near();
        Check.doneAs(q, 0, 3, 0);
        q.step(40);
        q.sky(0, 48);
        q.drain(q.world('b') - 499 - 2 * used(q));
        Check.doneAs(q, 4, 3, 1);
        Check.same("battery", q.world('b'), 499);
        q.sky(96, 48);
        q.step(10);
        q.sky(0, 48);
        q.drain(Math.max(0, q.world('b') - 500 - 2 * used(q)));
        Check.doneAs(q, 0, 3, 1);
        Check.same("battery", q.world('b'), 500);
        for (int[] bad : new int[][] {{4, 5}, {6, 7}, {10, 13}}) {
            Orbithouse r = Check.near();
            Check.doneAs(r, 0, 3, 0);
            r.step(40);
            Check.doneAs(r, 0, 2, bad[0], 1);
            Check.doneAs(r, 0, 2, bad[1], 1);
            Check.doneAs(r, 4, 3, 1);
            Check.doneAs(r, 0, 2, bad[1], 0);
            Check.doneAs(r, 0, 3, 1);
        }
        // It is SAFE since it became so, also if it is to become SAFE once more without an event.
        Orbithouse s = Check.near();
        Check.doneAs(s, 0, 3, 0);
        for (int i = 0; i < 3; i++) {
            Check.doneAs(s, 0, 37);
            s.step(4);
        }
        Check.same("image", s.parameter(22), 3);
        Check.same("T", s.parameter(0), 20);
        Check.doneAs(s, 0, 3, 1);
    }

    private static void oneOfTwoIsEnough() {
        Orbithouse o = Check.near();
        for (int unit = 4; unit < 8; unit += 2) {
            Check.doneAs(o, 0, 1, unit, 0);
            Check.doneAs(o, 0, 1, unit + 1, 1);
        }
        Check.doneAs(o, 0, 1, 3, 1);
        Check.doneAs(o, 0, 1, 2, 0);
        Check.doneAs(o, 0, 3, 0);
        for (int unit = 2; unit < 8; unit++) {
            Check.same("unit " + unit, o.unit(unit, 'o'), unit % 2);
        }
        // The other heater is on already: none is put on.
        Orbithouse p = Check.near();
        Check.doneAs(p, 0, 30, 0, 7, 255);
        Check.doneAs(p, 0, 1, 9, 1);
        Check.doneAs(p, 0, 30, 0, 6, 200);
        p.step(3);
        Check.same("heater 8", p.unit(8, 'o'), 0);
        Check.same("heater 9", p.unit(9, 'o'), 1);
    }

    private static void deadGyroIsNotStill() {
        Orbithouse o = Check.near();
        Check.doneAs(o, 0, 3, 2);
        o.step(1);
        o.breakUnit(4, 's');
        o.step(3);
        Check.same("still", o.unit(4, 's'), 3);
        o.breakUnit(4, 'd');
        o.step(1);
        Check.same("it did not answer", o.unit(4, 's'), 0);
        Check.same("misses", o.unit(4, 'm'), 1);
    }

    private static void farAngles() {
        for (int wait : new int[] {130, 165}) {
            Orbithouse o = Check.near();
            for (int wheel = 10; wheel < 13; wheel++) {
                Check.doneAs(o, 0, 1, wheel, 0);
            }
            o.step(wait);
            for (int wheel = 10; wheel < 13; wheel++) {
                Check.tellFast(o, 1, wheel, 1);
            }
            o.step(4);
            int angle = o.world('a');
            int rate = o.world('r');
            boolean isFar = false;
            for (int t = 0; t < 60; t++) {
                angle = round(angle + rate);
                rate = o.parameter(0) % 32 == 31 ? Math.min(9, rate + 1) : rate;
                int q = round(-angle);
                isFar |= Math.abs(q) >= 100;
                int h = Math.max(-4, Math.min(4, q / 20));
                h = h == 0 ? Integer.signum(q) : h;
                rate += Integer.signum(h - rate);
                o.step(1);
                Check.same("angle", o.world('a'), angle);
                Check.same("rate", o.world('r'), rate);
            }
            Check.same("far", isFar, true);
        }
    }
}
