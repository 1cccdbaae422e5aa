/** The boundaries of parts 1 and 2: ticks, SUN and PASS, DRAWS, and what a link does to a frame. */
public final class BoundsLinkTest {
    /** The four DRAWS of 10 of a frame that is neither late nor double. */
    private static final int[] TENS = {10, 10, 10, 10};
    /** The DRAWS of a frame that is late and comes twice. */
    private static final int[] LATE_AND_TWICE = {10, 10, 5, 10, 5, 10};

    public static void main(String[] args) {
        lastTick();
        sunAndPass();
        skyAtOnce();
        passOfFrames();
        seedsGoRound();
        fourNumbers();
        earliestAndLatestUp();
        earliestAndLatestDown();
        twiceWithoutLate();
        bentEachTime();
        delayIsThatOfItsSending();
        Check.finish("BoundsLinkTest");
    }

    /** "4000 is the last one": steps to it, over it, and at it. */
    private static void lastTick() {
        Orbithouse o = Check.near();
        for (int i = 0; i < 12; i++) {
            o.step(300);
        }
        Check.same("T", o.step(101), 3701);
        Check.refused("one too many", IllegalStateException.class, o, () -> o.step(300));
        Check.same("T", o.step(299), 4000);
        Check.same("T as parameter", o.parameter(0), 4000);
        Check.refused("T is 4000", IllegalStateException.class, o, () -> o.step(1));
        Check.refused("T is 4000", IllegalStateException.class, o, () -> o.step(300));
        Check.refused("the range is looked at ahead of T", IllegalArgumentException.class, o, () -> o.step(0));
        Check.refused("the range is looked at ahead of T", IllegalArgumentException.class, o, () -> o.step(301));
        Check.same("tell at the last tick", Check.tellFast(o, 0), 0);
    }

    /** "T modulo 96 is less than 60", "T modulo 48 is less than 16", and what sky() tells instead. */
    private static void sunAndPass() {
        int[][] skies = {{60, 16}, {0, 0}, {1, 1}, {59, 15}, {61, 17}, {95, 47}, {96, 48}};
        for (int[] sky : skies) {
            Orbithouse o = new Orbithouse();
            o.sky(sky[0], sky[1]);
            for (int t = 0; t <= 194; t++) {
                Check.same("SUN of " + sky[0] + " at " + t, o.world('s'), t % 96 < sky[0] ? 1 : 0);
                Check.same("SUN as parameter", o.parameter(23), t % 96 < sky[0] ? 1 : 0);
                Check.same("PASS of " + sky[1] + " at " + t, o.world('p'), t % 48 < sky[1] ? 1 : 0);
                o.step(1);
            }
        }
    }

    private static void skyAtOnce() {
        Orbithouse o = new Orbithouse();
        o.step(59);
        Check.same("59 is less than 60", o.world('s'), 1);
        o.sky(59, 11);
        Check.same("59 is not less than 59", o.world('s'), 0);
        Check.same("59 modulo 48 is not less than 11", o.world('p'), 0);
        o.sky(60, 12);
        Check.same("59 is less than 60", o.world('s'), 1);
        Check.same("59 modulo 48 is less than 12", o.world('p'), 1);
    }

    /** "A frame that is sent when there is no PASS is gone, without a DRAW"; up none is sent without a PASS. */
    private static void passOfFrames() {
        for (int pass : new int[] {0, 1, 16, 47, 48}) {
            Orbithouse o = Check.near();
            o.sky(96, pass);
            o.seed(1);
            for (int i = 0; i < 24; i++) {
                Check.tellFast(o, 0);
            }
            int up = 0;
            int down = 0;
            int draws = 0;
            for (int t = 1; t <= 110; t++) {
                boolean isPass = t % 48 < pass;
                o.step(1);
                Check.same("frames down that arrived at " + t, o.ground('d'), down);
                down += isPass ? 1 : 0;
                draws += isPass ? 4 : 0;
                if (isPass && up < 24) {
                    up++;
                    draws += 4;
                }
                Check.same("frames up at " + t, o.ground('u'), up);
            }
            Check.same("DRAWS with a PASS of " + pass, o.seed(1), Check.zBehind(1, draws));
        }
    }

    /** "z becomes (25173 times z, and 13849) modulo 65536", from its least and its most. */
    private static void seedsGoRound() {
        int[][] due = {{0, 13849}, {1, 39022}, {65535, 54212}, {65534, 29039}, {32768, 46617}};
        for (int[] pair : due) {
            Orbithouse o = mute();
            // Gone by the first DRAW: 865, 2438, 3388, 1814 and 2913 modulo 10 are less than 9.
            o.link(true, 1, 9, 0, 0, 0);
            o.seed(pair[0]);
            Check.tellFast(o, 0);
            o.step(1);
            Check.same("z behind " + pair[0], o.seed(7), pair[1]);
            Check.same("z as it was told", o.seed(65535), 7);
            Check.refused("65536", IllegalArgumentException.class, o, () -> o.seed(65536));
            Check.refused("-1", IllegalArgumentException.class, o, () -> o.seed(-1));
            Check.same("z stays", o.seed(0), 65535);
        }
    }

    /** No transmitter is on, so that all DRAWS are of the link up; T is 2. */
    private static Orbithouse mute() {
        Orbithouse o = Check.near();
        Check.doneAs(o, 0, 1, 2, 0);
        o.step(2);
        return o;
    }

    /** "Less than the first number", and the other three: the DRAW just below the number, and the number itself. */
    private static void fourNumbers() {
        for (int place = 0; place < 4; place++) {
            for (int number = 0; number <= 9; number++) {
                for (int drawn = Math.max(0, number - 1); drawn <= number; drawn++) {
                    oneNumber(place, number, drawn);
                }
            }
        }
    }

    private static void oneNumber(int place, int number, int drawn) {
        int[] four = new int[4];
        four[place] = number;
        int[] due = {-1, -1, -1, -1};
        due[place] = drawn;
        int seed = Check.seedFor(TENS, due);
        Orbithouse o = mute();
        o.link(true, 3, four[0], four[1], four[2], four[3]);
        o.seed(seed);
        int order = Check.tellFast(o, 0);
        int made = o.world('n');
        o.step(1);
        boolean isSo = drawn < number;
        String what = "number " + place + " is " + number + ", the DRAW " + drawn;
        int behind = Check.zBehind(seed, place + 2);
        int more = 1 + behind / 16 % 5;
        int draws = isSo && place == 0 ? 1 : isSo && (place == 1 || place == 2) ? 5 : 4;
        Check.same(what + ": z", o.seed(1), Check.zBehind(seed, draws));
        boolean isGone = isSo && (place == 0 || place == 3);
        int first = isSo && place == 1 ? 3 + more : 3;
        Check.go(o, first - 1);
        Check.same(what + ": not yet", o.endOf(order), -1);
        o.step(1);
        Check.same(what + ": come", o.endOf(order), isGone ? -1 : 0);
        o.step(20);
        Check.same(what + ": how often", o.world('n') - made, isGone ? 0 : isSo && place == 2 ? 2 : 1);
    }

    /** "Late, 1 and a DRAW of 5 more", "the second time 1 and a DRAW of 5 behind": 2 ticks at least, 19 at most. */
    private static void earliestAndLatestUp() {
        for (int delay : new int[] {1, 9}) {
            for (int late : new int[] {0, 4}) {
                for (int twice : new int[] {0, 4}) {
                    Orbithouse o = mute();
                    o.link(true, delay, 0, 9, 9, 0);
                    int order = Check.tellFast(o, 0);
                    int made = o.world('n');
                    o.seed(Check.seedFor(LATE_AND_TWICE, new int[] {-1, 0, late, 8, twice, -1}));
                    o.step(1);
                    int first = delay + 1 + late;
                    int second = first + 1 + twice;
                    Check.go(o, first - 1);
                    Check.same("not yet", o.endOf(order), -1);
                    o.step(1);
                    Check.same("the first time " + first, o.world('n') - made, 1);
                    Check.go(o, second - first - 1);
                    Check.same("once", o.world('n') - made, 1);
                    o.step(1);
                    Check.same("the second time " + second, o.world('n') - made, 2);
                    o.step(30);
                    Check.same("twice", o.world('n') - made, 2);
                }
            }
        }
    }

    private static void earliestAndLatestDown() {
        for (int delay : new int[] {1, 9}) {
            for (int late : new int[] {0, 4}) {
                for (int twice : new int[] {0, 4}) {
                    Orbithouse o = Check.near();
                    Check.doneAs(o, 0, 41, 1, 0);
                    o.breakUnit(2, 'd');
                    o.step(3);
                    o.link(false, delay, 0, 9, 9, 0);
                    int came = o.ground('d');
                    // One frame alone.
                    o.seed(Check.seedFor(LATE_AND_TWICE, new int[] {-1, 8, late, 0, twice, -1}));
                    o.breakUnit(2, 'g');
                    o.step(1);
                    o.breakUnit(2, 'd');
                    int first = delay + 1 + late;
                    int second = first + 1 + twice;
                    Check.go(o, first - 1);
                    Check.same("not yet", o.ground('d') - came, 0);
                    o.step(1);
                    Check.same("the first time " + first, o.ground('d') - came, 1);
                    Check.go(o, second - first - 1);
                    Check.same("once", o.ground('d') - came, 1);
                    o.step(1);
                    Check.same("the second time " + second, o.ground('d') - came, 2);
                    o.step(30);
                    Check.same("twice", o.ground('d') - came, 2);
                    Check.same("none was bent", o.ground('b'), 0);
                }
            }
        }
    }

    private static void twiceWithoutLate() {
        for (int twice = 0; twice < 5; twice++) {
            Orbithouse o = mute();
            o.link(true, 9, 0, 0, 1, 0);
            int made = o.world('n');
            Check.tellFast(o, 0);
            o.seed(Check.seedFor(new int[] {10, 10, 10, 5, 10}, new int[] {-1, -1, 0, twice, -1}));
            o.step(10);
            Check.same("the first one", o.world('n') - made, 1);
            Check.go(o, twice);
            Check.same("once", o.world('n') - made, 1);
            o.step(1);
            Check.same("1 and " + twice + " behind", o.world('n') - made, 2);
        }
    }

    /** "A bent frame is known to be bent as it arrives, each time, and nothing else is done with it." */
    private static void bentEachTime() {
        int[] numbers = {10, 10, 10, 5, 10};
        int seed = Check.seedFor(numbers, new int[] {-1, -1, 8, 3, 8});
        Orbithouse o = Check.near();
        Check.doneAs(o, 0, 41, 1, 0);
        o.step(2);
        o.breakUnit(2, 'd');
        Check.doneAs(o, 0, 31, 0, 0, 1);
        Check.same("a report is there", o.parameter(16), 2);
        int number = o.rowAt(false, 0);
        int came = o.ground('d');
        o.link(false, 2, 0, 0, 9, 9);
        o.seed(seed);
        o.breakUnit(2, 'g');
        o.step(1);
        o.breakUnit(2, 'd');
        o.step(1);
        Check.same("not arrived", o.ground('b'), 0);
        o.step(1);
        Check.same("bent", o.ground('b'), 1);
        o.step(3);
        Check.same("bent", o.ground('b'), 1);
        o.step(1);
        Check.same("bent each time", o.ground('b'), 2);
        o.step(9);
        Check.same("bent twice", o.ground('b'), 2);
        Check.same("none that was not bent", o.ground('d'), came);
        Check.same("its report is gone", o.parameter(16), 1);
        Check.same("its report is not kept", o.hasKept(number), false);
        // Up: neither the command nor its number is looked at.
        Orbithouse p = mute();
        p.window(5, 60, 3);
        p.link(true, 1, 0, 0, 9, 9);
        int order = Check.tellInOrder(p, 0);
        p.seed(seed);
        p.step(1);
        Check.same("sent", p.ground('u'), 2);
        p.step(20);
        for (char c : "ntlwa".toCharArray()) {
            Check.same("receiver " + c, p.receiver(c), 0);
        }
        Check.same("not come", p.endOf(order), -1);
    }

    /** What link() tells is of the frames that are sent from then on. */
    private static void delayIsThatOfItsSending() {
        Orbithouse o = mute();
        o.link(true, 9, 0, 0, 0, 0);
        int slow = Check.tellFast(o, 0);
        o.step(1);
        o.link(true, 1, 0, 0, 0, 0);
        int quick = Check.tellFast(o, 0);
        o.step(2);
        Check.same("the later one is there", o.endOf(quick), 0);
        Check.same("the first one is not", o.endOf(slow), -1);
        o.step(6);
        Check.same("the first one is not", o.endOf(slow), -1);
        o.step(1);
        Check.same("the first one is there", o.endOf(slow), 0);
    }
}
