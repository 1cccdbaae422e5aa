import java.util.NoSuchElementException;

/** The software on board of a satellite, the satellite around it, and its ground: README.md tells where its promises stand. */
public final class Orbithouse {
    private static final int LAST_TICK = 4000;
    private static final int KEPT_MOST = 200;

    private final World world;
    private final Commands commands;
    private final Telemetry telemetry;
    private final Memory memory;
    private final Units units;
    private final Board software;
    private final Ground base;
    private final Link up;
    private final Link down;
    private final ReportRow keptReports;
    private int highestKept = -1;
    private int wellArrived;
    private int bentArrived;

    public Orbithouse() {
        world = new World();
        commands = new Commands();
        telemetry = new Telemetry(world, commands);
        memory = new Memory();
        units = new Units(world, telemetry, memory);
        software = new Board(world, commands, telemetry, memory, units);
        base = new Ground(world);
        up = new Link(world);
        down = new Link(world);
        keptReports = new ReportRow(KEPT_MOST);
    }

    // sky, links, ticks

    public int sky(int sun, int pass) throws IllegalArgumentException {
        if (!isWithin(sun, 0, World.SUN_ROUND) || !isWithin(pass, 0, World.PASS_ROUND)) {
            throw new IllegalArgumentException();
        }
        int before = world.sunTicks;
        world.sunTicks = sun;
        world.passTicks = pass;
        return before;
    }

    public int link(boolean isUp, int delay, int gone, int late, int twice, int bent) throws IllegalArgumentException {
        if (!isWithin(delay, 1, 9) || !isWithin(gone, 0, 9) || !isWithin(late, 0, 9)
                || !isWithin(twice, 0, 9) || !isWithin(bent, 0, 9)) {
            throw new IllegalArgumentException();
        }
        Link meant = isUp ? up : down;
        int before = meant.delay;
        meant.delay = delay;
        meant.gone = gone;
        meant.late = late;
        meant.twice = twice;
        meant.bent = bent;
        return before;
    }

    public int seed(int z) throws IllegalArgumentException {
        if (!isWithin(z, 0, World.DRAW_ROUND - 1)) {
            throw new IllegalArgumentException();
        }
        int before = world.z;
        world.z = z;
        return before;
    }

    public int step(int ticks) throws IllegalArgumentException, IllegalStateException {
        if (!isWithin(ticks, 1, 300)) {
            throw new IllegalArgumentException();
        }
        if (world.tick + ticks > LAST_TICK) {
            throw new IllegalStateException();
        }
        for (int i = 0; i < ticks; i++) {
            world.tick++;
            takeFramesUp();
            software.sufferTick();
            software.live();
            sendFrameDown();
            takeFramesDown();
            base.runTimer();
            base.sendUp(up);
            world.batterySum += world.battery;
            software.noteTick();
        }
        return world.tick;
    }

    private void takeFramesUp() {
        for (int age = Link.LONGEST; age > 0; age--) {
            int slot = up.arriving(age);
            if (slot >= 0 && !up.isBentAt(slot)) {
                software.receive(up.cell(slot, Link.SORT), up.cell(slot, Link.NUMBER),
                        up.cell(slot, Link.UP_TURN), up.cell(slot, Link.ORDER));
            }
        }
    }

    private void sendFrameDown() {
        if (!software.isAwake() || !units.canSpeak()) {
            return;
        }
        software.tellReceiver(down.draft);
        down.draft[Link.HAS_REPORT] = 0;
        ReportRow row = telemetry.rowToTell();
        if (row != null && row.copyFirst(down.draft, Link.REPORT)) {
            row.dropFirst();
            down.draft[Link.HAS_REPORT] = 1;
        }
        down.send();
    }

    private void takeFramesDown() {
        for (int age = Link.LONGEST; age > 0; age--) {
            int slot = down.arriving(age);
            if (slot >= 0 && down.isBentAt(slot)) {
                bentArrived++;
            } else if (slot >= 0) {
                wellArrived++;
                base.hear(down.cell(slot, Link.NEXT), down.cell(slot, Link.TURN), down.cell(slot, Link.LOCKED) == 1,
                        down.cell(slot, Link.WAIT) == 1, down.cell(slot, Link.AGAIN) == 1);
                if (down.cell(slot, Link.HAS_REPORT) == 1) {
                    keepReport(slot);
                }
            }
        }
    }

    private void keepReport(int slot) {
        int number = down.cell(slot, Link.REPORT + ReportRow.NUMBER);
        // Most reports come rising: only one that is played back, late or double needs the search.
        if (number <= highestKept && keptReports.hasNumber(number)) {
            return;
        }
        if (keptReports.isFull()) {
            keptReports.dropFirst();
        }
        keptReports.add(down.load, slot * Link.WIDTH + Link.REPORT);
        highestKept = Math.max(highestKept, number);
    }

    // the ground

    public int tell(boolean isFast, int kind, int x, int y, int z, int u, int v, int w) throws IllegalStateException {
        int sort = isFast ? Link.FAST : Link.IN_ORDER;
        if (base.waitingCount(sort) >= Ground.WAITING_MOST || commands.orders >= Commands.ORDERS_MOST) {
            throw new IllegalStateException();
        }
        int order = commands.addOrder(new Command(kind, x, y, z, u, v, w), isFast);
        base.addWaiting(sort, order);
        return order;
    }

    public int begin(int number) throws IllegalArgumentException, IllegalStateException {
        if (!isWithin(number, 0, Ground.NUMBERS - 1)) {
            throw new IllegalArgumentException();
        }
        if (!base.canBegin()) {
            throw new IllegalStateException();
        }
        base.send = number;
        base.startControl(number);
        return base.turn;
    }

    public int unlock() throws IllegalStateException {
        if (base.state != Ground.LOCKED) {
            throw new IllegalStateException();
        }
        base.startControl(Ground.NO_NUMBER);
        return base.turn;
    }

    public int resume() throws IllegalStateException {
        if (base.state != Ground.GIVEN_UP) {
            throw new IllegalStateException();
        }
        base.goOn();
        return base.sentSize;
    }

    public int window(int window, int time, int limit) throws IllegalArgumentException {
        if (!isWithin(window, 1, Ground.SENT_MOST) || !isWithin(time, 5, 60) || !isWithin(limit, 1, 9)) {
            throw new IllegalArgumentException();
        }
        int before = base.window;
        base.window = window;
        base.time = time;
        base.limit = limit;
        return before;
    }

    public char state() {
        return base.state;
    }

    public int ground(char what) throws IllegalArgumentException {
        switch (what) {
            case 'o': return commands.orders;
            case 'w': return base.waitingCount(Link.IN_ORDER);
            case 'f': return base.waitingCount(Link.FAST);
            case 's': return base.sentSize;
            case 'm': return base.countMarked();
            case 'n': return base.send;
            case 't': return base.turn;
            case 'r': return base.tries;
            case 'c': return base.timer;
            case 'u': return up.count;
            case 'd': return wellArrived;
            case 'b': return bentArrived;
            case 'k': return keptReports.size;
            default: throw new IllegalArgumentException();
        }
    }

    public int sentAt(int index, char what) throws IndexOutOfBoundsException, IllegalArgumentException {
        if (index < 0 || index >= base.sentSize) {
            throw new IndexOutOfBoundsException();
        }
        switch (what) {
            case 'n': return base.sentCell(Ground.NUMBER, index);
            case 'o': return base.sentCell(Ground.ORDER, index);
            case 'm': return base.sentCell(Ground.MARK, index);
            default: throw new IllegalArgumentException();
        }
    }

    public int kept(int index, char what) throws IndexOutOfBoundsException, IllegalArgumentException {
        if (index < 0 || index >= keptReports.size) {
            throw new IndexOutOfBoundsException();
        }
        switch (what) {
            case 'n': return keptReports.cell(index, ReportRow.NUMBER);
            case 't': return keptReports.cell(index, ReportRow.TICK);
            case 'c': return keptReports.cell(index, ReportRow.CLASS);
            case 'a': return keptReports.cell(index, ReportRow.A);
            case 'b': return keptReports.cell(index, ReportRow.B);
            case 'm': return keptReports.cell(index, ReportRow.COUNT);
            default: throw new IllegalArgumentException();
        }
    }

    public int keptValue(int index, int value) throws IndexOutOfBoundsException, NoSuchElementException {
        if (index < 0 || index >= keptReports.size) {
            throw new IndexOutOfBoundsException();
        }
        if (value < 0 || value >= keptReports.cell(index, ReportRow.COUNT)) {
            throw new NoSuchElementException();
        }
        return keptReports.cell(index, ReportRow.VALUES + value);
    }

    public boolean hasKept(int number) {
        return keptReports.hasNumber(number);
    }

    public int endOf(int order) throws IndexOutOfBoundsException {
        if (order < 0 || order >= commands.orders) {
            throw new IndexOutOfBoundsException();
        }
        return commands.endAt(order);
    }

    // faults

    public boolean breakUnit(int unit, char how) throws IndexOutOfBoundsException, IllegalArgumentException {
        if (!isUnit(unit)) {
            throw new IndexOutOfBoundsException();
        }
        if (how != Units.GOOD && how != Units.DEAD && how != Units.STUCK) {
            throw new IllegalArgumentException();
        }
        boolean wasGood = units.truth[unit] == Units.GOOD;
        units.truth[unit] = how;
        return wasGood;
    }

    public int flip(int bank, int place, int bit) throws IndexOutOfBoundsException, IllegalArgumentException {
        if (!isByte(bank, place)) {
            throw new IndexOutOfBoundsException();
        }
        if (!isWithin(bit, 0, Memory.BITS - 1)) {
            throw new IllegalArgumentException();
        }
        memory.putWord(bank, place, memory.wordAt(bank, place) ^ 1 << bit);
        return memory.read(bank, place);
    }

    public boolean hang() throws IllegalStateException {
        if (software.state != Board.RUNS) {
            throw new IllegalStateException();
        }
        software.state = Board.HANGS;
        software.counted = 0;
        return software.isLevelOn(2);
    }

    public int drain(int amount) throws IllegalArgumentException {
        if (!isWithin(amount, 0, World.BATTERY_MOST)) {
            throw new IllegalArgumentException();
        }
        world.battery = Math.max(0, world.battery - amount);
        return world.battery;
    }

    // the board

    public char board() {
        return software.state;
    }

    public int parameter(int parameter) throws IndexOutOfBoundsException {
        if (!isWithin(parameter, 0, Telemetry.PARAMETERS - 1)) {
            throw new IndexOutOfBoundsException();
        }
        return software.parameterNow(parameter);
    }

    public int receiver(char what) throws IllegalArgumentException {
        switch (what) {
            case 'n': return software.next;
            case 't': return software.turn;
            case 'l': return asNumber(software.isLocked);
            case 'w': return asNumber(software.isWaiting);
            case 'a': return asNumber(software.isAgain);
            default: throw new IllegalArgumentException();
        }
    }

    public int queueAt(int index, char what) throws IndexOutOfBoundsException, IllegalArgumentException {
        if (index < 0 || index >= commands.size) {
            throw new IndexOutOfBoundsException();
        }
        Command c = commands.commandAt(index);
        switch (what) {
            case 'k': return c.kind;
            case 'o': return commands.orderAt(index);
            case 'f': return commands.sourceAt(index);
            case 'x': return c.x;
            case 'y': return c.y;
            case 'z': return c.z;
            case 'u': return c.u;
            case 'v': return c.v;
            case 'w': return c.w;
            default: throw new IllegalArgumentException();
        }
    }

    public int entryAt(int index, char what) throws IndexOutOfBoundsException, IllegalArgumentException {
        if (index < 0 || index >= commands.entries || index >= Commands.ENTRIES_MOST) {
            throw new IndexOutOfBoundsException();
        }
        switch (what) {
            case 't': return commands.entryTick[index];
            case 'g': return commands.entryGroup[index];
            case 'k': return commands.entryKind(index);
            default: throw new IllegalArgumentException();
        }
    }

    public boolean isOn(char what) throws IllegalArgumentException {
        switch (what) {
            case 's': return commands.isScheduleOn;
            case 'a': return telemetry.isActing;
            case '0': case '1': case '2': case '3': return commands.isGroupOn(what - '0');
            case 'l': case 'm': case 'n': return software.isLevelOn(what - 'l' + 1);
            default: throw new IllegalArgumentException();
        }
    }

    public int template(int template, int index) throws IndexOutOfBoundsException {
        if (!isWithin(template, 0, Commands.TEMPLATES - 1)) {
            throw new IndexOutOfBoundsException();
        }
        Command c = commands.templateAt(template);
        switch (index) {
            case 0: return c.kind;
            case 1: return c.x;
            case 2: return c.y;
            case 3: return c.z;
            case 4: return c.u;
            case 5: return c.v;
            case 6: return c.w;
            default: throw new IndexOutOfBoundsException();
        }
    }

    public int procedure(int procedure, char what) throws IndexOutOfBoundsException, IllegalArgumentException {
        Procedure p = software.procedureAt(procedure);
        if (p == null) {
            throw new IndexOutOfBoundsException();
        }
        switch (what) {
            case 's': return p.status();
            case 'r': return p.row;
            case 'n': return p.size;
            case 't': return p.ticks;
            case 'l': return p.limit;
            case 'e': return p.end;
            default: throw new IllegalArgumentException();
        }
    }

    public int register(int procedure, int index) throws IndexOutOfBoundsException {
        Procedure p = software.procedureAt(procedure);
        if (p == null || !isWithin(index, 0, Procedure.REGISTERS - 1)) {
            throw new IndexOutOfBoundsException();
        }
        return p.registers[index];
    }

    public int rowOf(int procedure, int row, int index) throws IndexOutOfBoundsException {
        Procedure p = software.procedureAt(procedure);
        if (p == null || row < 0 || row >= p.size || !isWithin(index, 0, Procedure.WIDTH - 1)) {
            throw new IndexOutOfBoundsException();
        }
        return p.cell(row, index);
    }

    public int structure(int structure, char what) throws IndexOutOfBoundsException, IllegalArgumentException {
        if (!isWithin(structure, 0, Telemetry.STRUCTURES - 1)) {
            throw new IndexOutOfBoundsException();
        }
        switch (what) {
            case 'n': return telemetry.structureSize[structure];
            case 'i': return telemetry.every[structure];
            default: throw new IllegalArgumentException();
        }
    }

    public int structureAt(int structure, int index) throws IndexOutOfBoundsException {
        if (!isWithin(structure, 0, Telemetry.STRUCTURES - 1) || index < 0
                || index >= telemetry.structureSize[structure]) {
            throw new IndexOutOfBoundsException();
        }
        return telemetry.structureCell(structure, index);
    }

    public int monitor(int monitor, char what) throws IndexOutOfBoundsException, IllegalArgumentException {
        if (!isWithin(monitor, 0, Telemetry.MONITORS - 1)) {
            throw new IndexOutOfBoundsException();
        }
        switch (what) {
            case 'k': return telemetry.monitors[monitor][Telemetry.HOW];
            case 'p': return telemetry.monitors[monitor][Telemetry.PARAMETER];
            case 'c': return telemetry.monitors[monitor][Telemetry.BAD_COUNT];
            case 'o': return telemetry.monitors[monitor][Telemetry.IS_ON];
            default: throw new IllegalArgumentException();
        }
    }

    public int event(int event, char what) throws IndexOutOfBoundsException, IllegalArgumentException {
        if (!isWithin(event, 0, Telemetry.EVENTS - 1)) {
            throw new IndexOutOfBoundsException();
        }
        switch (what) {
            case 't': return asNumber(telemetry.isTold[event]);
            case 'a': return telemetry.action[event];
            default: throw new IllegalArgumentException();
        }
    }

    public int store(int store, char what) throws IndexOutOfBoundsException, IllegalArgumentException {
        if (!isWithin(store, 0, Telemetry.STORES - 1)) {
            throw new IndexOutOfBoundsException();
        }
        switch (what) {
            case 'n': return telemetry.storeSize(store);
            case 'r': return asNumber(telemetry.isRing[store]);
            case 'c': return telemetry.classes[store];
            default: throw new IllegalArgumentException();
        }
    }

    public int storeAt(int store, int index) throws IndexOutOfBoundsException {
        if (index < 0 || index >= telemetry.storeSize(store)) {
            throw new IndexOutOfBoundsException();
        }
        return telemetry.storeNumber(store, index);
    }

    public int rowAt(boolean isPlayed, int index) throws IndexOutOfBoundsException {
        ReportRow row = isPlayed ? telemetry.played : telemetry.atOnce;
        if (index < 0 || index >= row.size) {
            throw new IndexOutOfBoundsException();
        }
        return row.cell(index, ReportRow.NUMBER);
    }

    public int byteAt(int bank, int place) throws IndexOutOfBoundsException {
        if (!isByte(bank, place)) {
            throw new IndexOutOfBoundsException();
        }
        return memory.read(bank, place);
    }

    public int bits(int bank, int place) throws IndexOutOfBoundsException {
        if (!isByte(bank, place)) {
            throw new IndexOutOfBoundsException();
        }
        return memory.wordAt(bank, place);
    }

    public int image(int image, char what) throws IndexOutOfBoundsException, IllegalArgumentException {
        if (!isWithin(image, Memory.FIRST_IMAGE, Memory.FIRST_IMAGE + 1)) {
            throw new IndexOutOfBoundsException();
        }
        switch (what) {
            case 'w': return asNumber(memory.isWhole[image - Memory.FIRST_IMAGE]);
            case 'b': return asNumber(memory.isBegun[image - Memory.FIRST_IMAGE]);
            case 'n': return asNumber(memory.nextImage == image);
            case 's': return memory.imageSum[image - Memory.FIRST_IMAGE];
            default: throw new IllegalArgumentException();
        }
    }

    public int file(int file, char what) throws IndexOutOfBoundsException, IllegalArgumentException {
        if (!isWithin(file, 0, Memory.FILES - 1)) {
            throw new IndexOutOfBoundsException();
        }
        switch (what) {
            case 'w': return asNumber(memory.isFileWhole[file]);
            case 'p': return memory.countParts(file);
            default: throw new IllegalArgumentException();
        }
    }

    public int filePart(int file, int part, int index) throws IndexOutOfBoundsException, NoSuchElementException {
        if (!isWithin(file, 0, Memory.FILES - 1) || !isWithin(part, 0, Memory.PARTS - 1)
                || !isWithin(index, 0, Memory.PART_CELLS - 1)) {
            throw new IndexOutOfBoundsException();
        }
        if (!memory.hasPart(file, part)) {
            throw new NoSuchElementException();
        }
        return memory.partCell(file, part, index);
    }

    public int unit(int unit, char what) throws IndexOutOfBoundsException, IllegalArgumentException {
        if (!isUnit(unit)) {
            throw new IndexOutOfBoundsException();
        }
        switch (what) {
            case 'o': return asNumber(units.isOn[unit]);
            case 'b': return asNumber(units.isBad[unit]);
            case 'm': return units.misses[unit];
            case 's': return units.still[unit];
            case 't': return units.truth[unit];
            default: throw new IllegalArgumentException();
        }
    }

    public int world(char what) throws IllegalArgumentException {
        switch (what) {
            case 'b': return world.battery;
            case 'w': return world.warmth;
            case 'a': return world.angle;
            case 'r': return world.rate;
            case 's': return asNumber(world.isSunny());
            case 'p': return asNumber(world.isPass());
            case 'n': return telemetry.made;
            case 'd': return telemetry.dropped;
            default: throw new IllegalArgumentException();
        }
    }

    // figures

    public float onShare() {
        return (float) units.countOn() / (float) Units.COUNT;
    }

    public double meanBattery() throws ArithmeticException {
        if (world.tick == 0) {
            throw new ArithmeticException();
        }
        return (double) world.batterySum / (double) world.tick;
    }

    public long checksum() {
        long sum = 7;
        for (int i = 0; i < Telemetry.PARAMETERS; i++) {
            sum = 31 * sum + software.parameterNow(i);
        }
        sum = 31 * sum + software.next;
        sum = 31 * sum + software.turn;
        sum = 31 * sum + base.send;
        sum = 31 * sum + base.turn;
        sum = 31 * sum + base.tries;
        sum = 31 * sum + world.angle;
        sum = 31 * sum + world.rate;
        for (int i = 0; i < Units.COUNT; i++) {
            sum = 31 * sum + asNumber(units.isOn[i]);
        }
        for (int bank = 0; bank < Memory.BANKS; bank++) {
            for (int place = 0; place < Memory.PLACES; place++) {
                sum = 31 * sum + memory.wordAt(bank, place);
            }
        }
        sum = 31 * sum + telemetry.made;
        for (int i = 0; i < commands.orders; i++) {
            sum = 31 * sum + commands.endAt(i);
        }
        return sum;
    }

    public boolean isSound() {
        return base.isFitting() && commands.isFitting() && telemetry.isFitting() && software.isFitting()
                && keptReports.size <= KEPT_MOST && !units.isBadOneOn();
    }

    /*
     * The document counts the parts of the THEOREM, but does not tell them; these six follow from its other words:
     * commands in order came in their order, each once (noted as they come); what the ground takes to have come did;
     * what it keeps was made; what is around stays in its bounds, no unit is on that is held bad, and SAFE lets
     * nothing go on (the last three noted in each tick).
     */
    public boolean isTrue() {
        int first = base.firstNotKnown(commands.orders);
        return !software.isBroken && commands.haveCome(first) && keptReports.isBelow(telemetry.made, world.tick);
    }

    private static boolean isWithin(int number, int least, int most) {
        return number >= least && number <= most;
    }

    private static boolean isByte(int bank, int place) {
        return isWithin(bank, 0, Memory.BANKS - 1) && isWithin(place, 0, Memory.PLACES - 1);
    }

    private static boolean isUnit(int unit) {
        return isWithin(unit, 0, Units.COUNT - 1);
    }

    private static int asNumber(boolean is) {
        return is ? 1 : 0;
    }

    /** One command: its KIND and six numbers. It never changes, so that rows may share it. */
    private static final class Command {
        final int kind;
        final int x;
        final int y;
        final int z;
        final int u;
        final int v;
        final int w;

        Command(int kind, int x, int y, int z, int u, int v, int w) {
            this.kind = kind;
            this.x = x;
            this.y = y;
            this.z = z;
            this.u = u;
            this.v = v;
            this.w = w;
        }
    }

    /** A row of reports, the oldest one first; a report is written into its cells, so that none needs an object. */
    private static final class ReportRow {
        static final int NUMBER = 0;
        static final int TICK = 1;
        static final int CLASS = 2;
        static final int A = 3;
        static final int B = 4;
        static final int COUNT = 5;
        static final int VALUES = 6;
        static final int VALUES_MOST = 6;
        static final int WIDTH = 12;

        final int most;
        final int[] cells;
        int first;
        int size;

        ReportRow(int most) {
            this.most = isWithin(most, 1, KEPT_MOST) ? most : KEPT_MOST;
            cells = new int[this.most * WIDTH];
        }

        boolean isFull() {
            return size >= most;
        }

        /** Where the cells of a report begin; the row goes round in its cells. */
        int startOf(int index) {
            int slot = first + index;
            return (slot >= most ? slot - most : slot) * WIDTH;
        }

        boolean add(int[] from, int start) {
            if (size >= most || start < 0 || start + WIDTH > from.length) {
                return false;
            }
            // As startOf() tells, without a call: this is the deepest one of all.
            int slot = first + size;
            int to = (slot >= most ? slot - most : slot) * WIDTH;
            if (to < 0 || to + WIDTH > cells.length) {
                return false;
            }
            for (int i = 0; i < WIDTH; i++) {
                cells[to + i] = from[start + i];
            }
            size++;
            return true;
        }

        void dropFirst() {
            if (size > 0) {
                size--;
                first = first + 1 >= most ? 0 : first + 1;
            }
        }

        void clear() {
            first = 0;
            size = 0;
        }

        int cell(int index, int field) {
            if (index < 0 || index >= size || field < 0 || field >= WIDTH) {
                return 0;
            }
            int at = startOf(index) + field;
            return at >= 0 && at < cells.length ? cells[at] : 0;
        }

        boolean copyFirst(int[] into, int start) {
            int from = startOf(0);
            if (size == 0 || from < 0 || from + WIDTH > cells.length || start < 0 || start + WIDTH > into.length) {
                return false;
            }
            System.arraycopy(cells, from, into, start, WIDTH);
            return true;
        }

        boolean hasNumber(int number) {
            for (int i = 0; i < size; i++) {
                if (cell(i, NUMBER) == number) {
                    return true;
                }
            }
            return false;
        }

        boolean isRising() {
            for (int i = 1; i < size; i++) {
                if (cell(i, NUMBER) <= cell(i - 1, NUMBER)) {
                    return false;
                }
            }
            return true;
        }

        boolean isBelow(int number, int tick) {
            for (int i = 0; i < size; i++) {
                if (cell(i, NUMBER) < 0 || cell(i, NUMBER) >= number || cell(i, TICK) > tick) {
                    return false;
                }
            }
            return true;
        }
    }

    /** The ticks, the sky, the DRAWS, and what is around the satellite. */
    private static final class World {
        static final int SUN_ROUND = 96;
        static final int PASS_ROUND = 48;
        static final int DRAW_ROUND = 65536;
        static final int BATTERY_MOST = 1000;
        static final int RATE_MOST = 9;
        static final int HALF_TURN = 180;
        static final int COLDEST = -60;
        static final int WARMEST = 80;

        int tick;
        int sunTicks = 60;
        int passTicks = 16;
        int z = 1;
        int angle = 20;
        int rate;
        int battery = 800;
        int warmth = 10;
        long batterySum;

        boolean isSunny() {
            return tick % SUN_ROUND < sunTicks;
        }

        boolean isPass() {
            return tick % PASS_ROUND < passTicks;
        }

        int draw(int n) {
            z = (25173 * z + 13849) % DRAW_ROUND;
            return n > 0 ? z / 16 % n : 0;
        }

        void drift() {
            angle = goneRound(angle + rate);
            if (tick % 32 == 0) {
                turnBy(1);
            }
        }

        void turnBy(int more) {
            rate = bounded(rate + more, -RATE_MOST, RATE_MOST);
        }

        void charge(int used) {
            int gain = isSunny() ? 30 - Math.abs(angle) / 6 : 0;
            battery = bounded(battery + gain - used, 0, BATTERY_MOST);
        }

        void warm(boolean isHeated) {
            int more = (isSunny() ? 1 : -1) + (isHeated ? 2 : 0);
            warmth = bounded(warmth + more, COLDEST, WARMEST);
        }

        boolean isBounded() {
            return isWithin(battery, 0, BATTERY_MOST) && isWithin(warmth, COLDEST, WARMEST)
                    && isWithin(angle, -HALF_TURN, HALF_TURN - 1) && isWithin(rate, -RATE_MOST, RATE_MOST);
        }

        static int goneRound(int angle) {
            return Math.floorMod(angle + HALF_TURN, 2 * HALF_TURN) - HALF_TURN;
        }

        static int bounded(int number, int least, int most) {
            return Math.max(least, Math.min(number, most));
        }
    }

    /** One of the two links, with the frames that are on their way. */
    private static final class Link {
        // At most one frame is sent in a tick, and none is on its way longer than 9 + 5 + 5 ticks.
        static final int LONGEST = 19;
        static final int SLOTS = 32;
        static final int WIDTH = 18;

        // What a frame up tells.
        static final int SORT = 0;
        static final int NUMBER = 1;
        static final int UP_TURN = 2;
        static final int ORDER = 3;
        static final int IN_ORDER = 0;
        static final int FAST = 1;
        static final int CONTROL = 2;

        // What a frame down tells.
        static final int NEXT = 0;
        static final int TURN = 1;
        static final int LOCKED = 2;
        static final int WAIT = 3;
        static final int AGAIN = 4;
        static final int HAS_REPORT = 5;
        static final int REPORT = 6;

        final World world;
        final int[] draft = new int[WIDTH];
        final int[] load = new int[SLOTS * WIDTH];
        final int[] sentIn = new int[SLOTS];
        final int[] arrival = new int[SLOTS];
        final int[] secondArrival = new int[SLOTS];
        final boolean[] isBent = new boolean[SLOTS];
        int delay = 2;
        int gone;
        int late;
        int twice;
        int bent;
        int count;

        Link(World world) {
            this.world = world;
        }

        /** Sends what stands in the draft. */
        void send() {
            count++;
            if (!world.isPass() || world.draw(10) < gone) {
                return;
            }
            int slot = world.tick % SLOTS;
            if (slot < 0) {
                return;
            }
            int arrives = world.tick + delay;
            if (world.draw(10) < late) {
                arrives += 1 + world.draw(5);
            }
            arrival[slot] = arrives;
            secondArrival[slot] = world.draw(10) < twice ? arrives + 1 + world.draw(5) : 0;
            isBent[slot] = world.draw(10) < bent;
            sentIn[slot] = world.tick;
            System.arraycopy(draft, 0, load, slot * WIDTH, WIDTH);
        }

        /** The slot of the frame that was sent so many ticks ago, if it arrives now; otherwise -1. */
        int arriving(int age) {
            int sent = world.tick - age;
            if (sent < 1) {
                return -1;
            }
            int slot = sent % SLOTS;
            boolean isDue = sentIn[slot] == sent && (arrival[slot] == world.tick || secondArrival[slot] == world.tick);
            return isDue ? slot : -1;
        }

        boolean isBentAt(int slot) {
            return slot >= 0 && slot < SLOTS && isBent[slot];
        }

        int cell(int slot, int field) {
            return slot >= 0 && slot < SLOTS && field >= 0 && field < WIDTH ? load[slot * WIDTH + field] : 0;
        }
    }

    /** What the ground knows of its frames in order, its control frame, and what waits to be sent. */
    private static final class Ground {
        static final int NUMBERS = 64;
        static final int TURNS = 256;
        static final int WAITING_MOST = 24;
        static final int SENT_MOST = 20;
        static final char ACTIVE = 'a';
        static final char CONTROLS = 'c';
        static final char LOCKED = 'l';
        static final char GIVEN_UP = 's';
        static final int NO_NUMBER = -1;
        static final int NUMBER = 0;
        static final int ORDER = 1;
        static final int MARK = 2;
        static final int LONG_AGO = -1000;

        final World world;
        final int[][] waiting = new int[2][WAITING_MOST];
        final int[] waitingSize = new int[2];
        final int[][] sent = new int[3][SENT_MOST];
        int sentSize;
        int send;
        int turn;
        int tries;
        int timer;
        int window = 5;
        int time = 20;
        int limit = 3;
        char state = ACTIVE;
        boolean isControlMarked;
        int controlNumber = NO_NUMBER;
        boolean isControlGivenUp;
        boolean isToldToWait;
        int markedByWord = LONG_AGO;
        int sentInOrder = LONG_AGO;

        Ground(World world) {
            this.world = world;
        }

        int waitingCount(int sort) {
            return sort >= 0 && sort < 2 ? waitingSize[sort] : 0;
        }

        void addWaiting(int sort, int order) {
            if (sort >= 0 && sort < 2 && waitingSize[sort] >= 0 && waitingSize[sort] < WAITING_MOST) {
                waiting[sort][waitingSize[sort]] = order;
                waitingSize[sort]++;
            }
        }

        int takeWaiting(int sort) {
            if (sort < 0 || sort >= 2 || waitingSize[sort] <= 0) {
                return -1;
            }
            int order = waiting[sort][0];
            waitingSize[sort]--;
            for (int i = 0; i < waitingSize[sort] && i + 1 < WAITING_MOST; i++) {
                waiting[sort][i] = waiting[sort][i + 1];
            }
            return order;
        }

        int sentCell(int field, int index) {
            return field >= 0 && field < 3 && index >= 0 && index < SENT_MOST ? sent[field][index] : 0;
        }

        int countMarked() {
            int marked = 0;
            for (int i = 0; i < sentSize; i++) {
                marked += sentCell(MARK, i);
            }
            return marked;
        }

        void markAll() {
            for (int i = 0; i < sentSize && i < SENT_MOST; i++) {
                sent[MARK][i] = 1;
            }
        }

        boolean canBegin() {
            return state == ACTIVE && waitingSize[Link.IN_ORDER] == 0 && sentSize == 0
                    && world.tick - sentInOrder > 20;
        }

        void startControl(int number) {
            controlNumber = number;
            turn = (turn + 1) % TURNS;
            state = CONTROLS;
            tries = 0;
            isControlMarked = true;
        }

        void goOn() {
            tries = 0;
            if (isControlGivenUp) {
                state = CONTROLS;
                isControlMarked = true;
            } else {
                state = ACTIVE;
                markAll();
            }
        }

        void hear(int next, int toldTurn, boolean isLocked, boolean isWaiting, boolean isAgain) {
            if (toldTurn != turn) {
                return;
            }
            if (state == CONTROLS) {
                state = ACTIVE;
                tries = 0;
                markAll();
            }
            if (state != ACTIVE) {
                return;
            }
            int come = sentSize > 0 ? Math.floorMod(next - sentCell(NUMBER, 0), NUMBERS) : 0;
            if (come > sentSize) {
                return;
            }
            forgetFirst(come);
            isToldToWait = isWaiting;
            if (isLocked) {
                state = LOCKED;
            } else if (isAgain && !isWaiting && sentSize > 0 && countMarked() == 0 && world.tick - markedByWord > 10) {
                markAll();
                markedByWord = world.tick;
            }
        }

        void forgetFirst(int come) {
            if (come <= 0) {
                return;
            }
            tries = 0;
            timer = time;
            sentSize = Math.max(0, sentSize - come);
            for (int field = 0; field < 3; field++) {
                for (int i = 0; i < sentSize && i + come < SENT_MOST; i++) {
                    sent[field][i] = sent[field][i + come];
                }
            }
        }

        void runTimer() {
            boolean isControl = state == CONTROLS;
            if (!isControl && (state != ACTIVE || sentSize == 0)) {
                return;
            }
            timer = Math.max(0, timer - 1);
            if (timer > 0 || (isControl ? isControlMarked : countMarked() > 0)) {
                return;
            }
            tries++;
            if (tries > limit) {
                state = GIVEN_UP;
                isControlGivenUp = isControl;
            } else if (isControl) {
                isControlMarked = true;
            } else {
                markAll();
            }
        }

        void sendUp(Link up) {
            if (!world.isPass()) {
                return;
            }
            if (state == CONTROLS && isControlMarked) {
                isControlMarked = false;
                timer = time;
                sendFrame(up, Link.CONTROL, controlNumber, -1);
            } else if (waitingSize[Link.FAST] > 0) {
                sendFrame(up, Link.FAST, 0, takeWaiting(Link.FAST));
            } else if (state == ACTIVE) {
                sendInOrder(up);
            }
        }

        void sendInOrder(Link up) {
            int index = firstMarked();
            if (index < 0 && mayAddSent()) {
                index = sentSize;
                sent[NUMBER][index] = send;
                sent[ORDER][index] = takeWaiting(Link.IN_ORDER);
                sentSize++;
                send = (send + 1) % NUMBERS;
            }
            if (index < 0 || index >= SENT_MOST) {
                return;
            }
            sent[MARK][index] = 0;
            timer = time;
            sentInOrder = world.tick;
            sendFrame(up, Link.IN_ORDER, sent[NUMBER][index], sent[ORDER][index]);
        }

        int firstMarked() {
            for (int i = 0; i < sentSize; i++) {
                if (sentCell(MARK, i) == 1) {
                    return i;
                }
            }
            return -1;
        }

        boolean mayAddSent() {
            return !isToldToWait && sentSize >= 0 && sentSize < window && sentSize < SENT_MOST
                    && waitingSize[Link.IN_ORDER] > 0;
        }

        void sendFrame(Link up, int sort, int number, int order) {
            up.draft[Link.SORT] = sort;
            up.draft[Link.NUMBER] = number;
            up.draft[Link.UP_TURN] = turn;
            up.draft[Link.ORDER] = order;
            up.send();
        }

        /** The first ORDER in order that is not known to have come, or how many ORDERS there are. */
        int firstNotKnown(int orders) {
            if (sentSize > 0) {
                return sentCell(ORDER, 0);
            }
            return waitingSize[Link.IN_ORDER] > 0 ? waiting[Link.IN_ORDER][0] : orders;
        }

        boolean isFitting() {
            if (waitingSize[Link.IN_ORDER] > WAITING_MOST || waitingSize[Link.FAST] > WAITING_MOST
                    || sentSize > SENT_MOST) {
                return false;
            }
            for (int i = 1; i <= sentSize; i++) {
                int follower = i < sentSize ? sentCell(NUMBER, i) : send;
                if (follower != (sentCell(NUMBER, i - 1) + 1) % NUMBERS) {
                    return false;
                }
            }
            return true;
        }
    }

    /** The ORDERS of the ground, the queue on board, the templates, and the schedule. */
    private static final class Commands {
        static final int ORDERS_MOST = 512;
        static final int QUEUE_MOST = 8;
        static final int TEMPLATES = 12;
        static final int ENTRIES_MOST = 16;
        static final int GROUPS = 4;
        static final int NOT_COME = -1;
        static final int IN_QUEUE = -2;
        static final int NO_ORDER = -1;

        final Command nothing = new Command(0, 0, 0, 0, 0, 0, 0);
        final Command[] told = new Command[ORDERS_MOST];
        final boolean[] isFast = new boolean[ORDERS_MOST];
        final int[] ends = new int[ORDERS_MOST];
        int orders;
        final Command[] queue = new Command[QUEUE_MOST];
        final int[] queueOrder = new int[QUEUE_MOST];
        final char[] queueSource = new char[QUEUE_MOST];
        final int[] queueSerial = new int[QUEUE_MOST];
        int size;
        int serials;
        int lost;
        final Command[] templates = new Command[TEMPLATES];
        final Command[] entryCommand = new Command[ENTRIES_MOST];
        final int[] entryTick = new int[ENTRIES_MOST];
        final int[] entryGroup = new int[ENTRIES_MOST];
        int entries;
        boolean isScheduleOn;
        final boolean[] isGroupOff = new boolean[GROUPS];

        int addOrder(Command c, boolean fast) {
            if (orders < 0 || orders >= ORDERS_MOST) {
                return NO_ORDER;
            }
            told[orders] = c;
            isFast[orders] = fast;
            ends[orders] = NOT_COME;
            orders++;
            return orders - 1;
        }

        int endAt(int order) {
            return order >= 0 && order < orders && order < ORDERS_MOST ? ends[order] : NOT_COME;
        }

        /** Whether all that are in order and below the given ORDER came. */
        boolean haveCome(int below) {
            for (int i = 0; i < below && i < orders && i < ORDERS_MOST; i++) {
                if (!isFast[i] && ends[i] == NOT_COME) {
                    return false;
                }
            }
            return true;
        }

        boolean hasRoom() {
            return size < QUEUE_MOST;
        }

        /** A frame is asked for room ahead, so that it is never LOST. */
        void pushOrder(int order) {
            if (order >= 0 && order < orders && order < ORDERS_MOST && hasRoom()) {
                push(told[order], order, 'g');
                ends[order] = IN_QUEUE;
            }
        }

        /** Answers by what a procedure knows the command again, 0 if there was no room. */
        int push(Command c, int order, char source) {
            if (size < 0 || size >= QUEUE_MOST) {
                lost++;
                return 0;
            }
            serials++;
            queue[size] = c;
            queueOrder[size] = order;
            queueSource[size] = source;
            queueSerial[size] = serials;
            size++;
            return serials;
        }

        Command commandAt(int index) {
            Command c = index >= 0 && index < size && index < QUEUE_MOST ? queue[index] : nothing;
            return c == null ? nothing : c;
        }

        int orderAt(int index) {
            return index >= 0 && index < size && index < QUEUE_MOST ? queueOrder[index] : NO_ORDER;
        }

        char sourceAt(int index) {
            return index >= 0 && index < size && index < QUEUE_MOST ? queueSource[index] : 'g';
        }

        int serialAt(int index) {
            return index >= 0 && index < size && index < QUEUE_MOST ? queueSerial[index] : 0;
        }

        void dropFirst() {
            size = Math.max(0, size - 1);
            for (int i = 0; i < size && i + 1 < QUEUE_MOST; i++) {
                queue[i] = queue[i + 1];
                queueOrder[i] = queueOrder[i + 1];
                queueSource[i] = queueSource[i + 1];
                queueSerial[i] = queueSerial[i + 1];
            }
        }

        /** A fast frame that came twice may wait still with the same ORDER: then the later one tells the end. */
        void noteEnd(int order, int code) {
            if (order < 0 || order >= orders || order >= ORDERS_MOST) {
                return;
            }
            for (int i = 0; i < size; i++) {
                if (orderAt(i) == order) {
                    return;
                }
            }
            ends[order] = code;
        }

        void endAll(int code) {
            for (int i = 0; i < QUEUE_MOST && size > 0; i++) {
                int order = orderAt(0);
                dropFirst();
                noteEnd(order, code);
            }
        }

        Command templateAt(int template) {
            Command c = template >= 0 && template < TEMPLATES ? templates[template] : nothing;
            return c == null ? nothing : c;
        }

        void setTemplate(int template, Command c) {
            if (template >= 0 && template < TEMPLATES) {
                templates[template] = c;
            }
        }

        boolean isGroupOn(int group) {
            return group >= 0 && group < GROUPS && !isGroupOff[group];
        }

        void switchGroup(int group, boolean on) {
            if (group >= 0 && group < GROUPS) {
                isGroupOff[group] = !on;
            }
        }

        int entryKind(int index) {
            Command c = index >= 0 && index < ENTRIES_MOST ? entryCommand[index] : nothing;
            return c == null ? 0 : c.kind;
        }

        boolean addEntry(Command c, int tick, int group) {
            if (entries < 0 || entries >= ENTRIES_MOST) {
                return false;
            }
            entryCommand[entries] = c;
            entryTick[entries] = tick;
            entryGroup[entries] = group;
            entries++;
            return true;
        }

        void moveEntry(int from, int to) {
            if (isWithin(from, 0, ENTRIES_MOST - 1) && isWithin(to, 0, ENTRIES_MOST - 1)) {
                entryCommand[to] = entryCommand[from];
                entryTick[to] = entryTick[from];
                entryGroup[to] = entryGroup[from];
            }
        }

        void dropEntries(int group, int from, int to) {
            int left = 0;
            for (int i = 0; i < entries && i < ENTRIES_MOST; i++) {
                if (entryGroup[i] != group || !isWithin(entryTick[i], from, to)) {
                    moveEntry(i, left);
                    left++;
                }
            }
            entries = left;
        }

        boolean shiftEntries(int group, int more, int now) {
            for (int i = 0; i < entries && i < ENTRIES_MOST; i++) {
                if (entryGroup[i] == group && entryTick[i] + more <= now) {
                    return false;
                }
            }
            for (int i = 0; i < entries && i < ENTRIES_MOST; i++) {
                if (entryGroup[i] == group) {
                    entryTick[i] += more;
                }
            }
            return true;
        }

        /** Entries of ticks that went by while the board did not run are LOST likewise. */
        void lookAtSchedule(int now) {
            int left = 0;
            for (int i = 0; i < entries && i < ENTRIES_MOST; i++) {
                if (entryTick[i] > now) {
                    moveEntry(i, left);
                    left++;
                } else if (entryTick[i] == now && isScheduleOn && isGroupOn(entryGroup[i])) {
                    push(entryCommand[i], NO_ORDER, 's');
                } else {
                    lost++;
                }
            }
            entries = left;
        }

        boolean isFitting() {
            return size <= QUEUE_MOST && entries <= ENTRIES_MOST && orders <= ORDERS_MOST;
        }
    }

    /** A procedure: its rows, and where it is. */
    private static final class Procedure {
        static final int ROWS = 12;
        static final int WIDTH = 4;
        static final int REGISTERS = 4;
        static final int REST = 0;
        static final int RUNNING = 2;
        static final int HELD = 3;

        final int[] cells = new int[ROWS * WIDTH];
        final int[] registers = new int[REGISTERS];
        int size;
        int mode = REST;
        int row;
        int ticks;
        int limit;
        int end = -1;
        int ticksAtRow;
        int waitsFor;

        int status() {
            return mode != REST ? mode : size > 0 ? 1 : 0;
        }

        boolean isActive() {
            return mode != REST;
        }

        int cell(int at, int index) {
            return at >= 0 && at < ROWS && index >= 0 && index < WIDTH ? cells[at * WIDTH + index] : 0;
        }

        boolean setRow(Command c) {
            if (isActive() || c.y < 0 || c.y > size || c.y >= ROWS) {
                return false;
            }
            int at = c.y * WIDTH;
            cells[at] = c.z;
            cells[at + 1] = c.u;
            cells[at + 2] = c.v;
            cells[at + 3] = c.w;
            size = Math.max(size, c.y + 1);
            return true;
        }

        boolean start(int most) {
            if (isActive() || size == 0) {
                return false;
            }
            for (int i = 0; i < REGISTERS; i++) {
                registers[i] = 0;
            }
            mode = RUNNING;
            goTo(0);
            ticks = 0;
            limit = most;
            waitsFor = 0;
            return true;
        }

        boolean change(int from, int to) {
            if (mode != from) {
                return false;
            }
            mode = to;
            return true;
        }

        boolean empty() {
            if (isActive()) {
                return false;
            }
            size = 0;
            return true;
        }

        void goTo(int to) {
            row = to;
            ticksAtRow = 0;
        }

        void goToNext() {
            goTo(row + 1);
        }

        void goToTold(int to) {
            goTo(size >= 0 ? Math.floorMod(to, size + 1) : 0);
        }

        int registerAt(int number) {
            return registers[Math.floorMod(number, REGISTERS)];
        }

        void setRegister(int number, int value) {
            registers[Math.floorMod(number, REGISTERS)] = value;
        }

        void hearEnd(int serial, int code) {
            if (isActive() && waitsFor == serial && serial != 0) {
                waitsFor = 0;
                setRegister(3, code);
                goToNext();
            }
        }

        void finish(int code) {
            end = code;
            mode = REST;
            waitsFor = 0;
        }
    }

    /** Reports and their rows, events, stores, structures, and monitors. */
    private static final class Telemetry {
        static final int PARAMETERS = 24;
        static final int EVENTS = 16;
        static final int STORES = 3;
        static final int STORE_MOST = 24;
        static final int AT_ONCE_MOST = 12;
        static final int PLAYED_MOST = 40;
        static final int STRUCTURES = 3;
        static final int STRUCTURE_MOST = 6;
        static final int MONITORS = 6;
        static final int NO_ACTION = -1;

        // What is known of a monitor.
        static final int HOW = 0;
        static final int PARAMETER = 1;
        static final int FIRST_NUMBER = 2;
        static final int SECOND_NUMBER = 3;
        static final int TIMES = 4;
        static final int EVENT = 5;
        static final int BAD_COUNT = 6;
        static final int IS_ON = 7;
        static final int HAS_LAST = 8;
        static final int LAST = 9;
        static final int MONITOR_WIDTH = 10;
        static final int BY_LIMITS = 1;
        static final int BY_BITS = 2;

        final World world;
        final Commands commands;
        final ReportRow atOnce = new ReportRow(AT_ONCE_MOST);
        final ReportRow played = new ReportRow(PLAYED_MOST);
        final ReportRow[] stores = new ReportRow[STORES];
        final boolean[] isRing = new boolean[STORES];
        final int[] classes = new int[STORES];
        final int[] draft = new int[ReportRow.WIDTH];
        int made;
        int dropped;
        final boolean[] isTold = new boolean[EVENTS];
        final int[] action = new int[EVENTS];
        boolean isActing;
        final int[] structureSize = new int[STRUCTURES];
        final int[] structureCells = new int[STRUCTURES * STRUCTURE_MOST];
        final int[] every = new int[STRUCTURES];
        final int[][] monitors = new int[MONITORS][MONITOR_WIDTH];

        Telemetry(World world, Commands commands) {
            this.world = world;
            this.commands = commands;
            for (int i = 0; i < STORES; i++) {
                stores[i] = new ReportRow(STORE_MOST);
                isRing[i] = true;
            }
            classes[0] = 1 << 0 | 1 << 1;
            classes[1] = 1 << 2;
            classes[2] = 1 << 3 | 1 << 4 | 1 << 5;
            for (int i = 0; i < EVENTS; i++) {
                isTold[i] = true;
                action[i] = NO_ACTION;
            }
        }

        /** Values are put ahead of make(), which tells how many of them count. */
        void putValue(int index, int value) {
            if (index >= 0 && index < ReportRow.VALUES_MOST) {
                draft[ReportRow.VALUES + index] = value;
            }
        }

        void make(int sort, int a, int b, int values) {
            draft[ReportRow.NUMBER] = made;
            draft[ReportRow.TICK] = world.tick;
            draft[ReportRow.CLASS] = sort;
            draft[ReportRow.A] = a;
            draft[ReportRow.B] = b;
            draft[ReportRow.COUNT] = values;
            made++;
            if (!atOnce.add(draft, 0)) {
                dropped++;
            }
            for (int i = 0; i < STORES; i++) {
                ReportRow row = stores[i];
                if (row != null && (classes[i] >> sort & 1) == 1) {
                    if (row.isFull() && isRing[i]) {
                        row.dropFirst();
                    }
                    row.add(draft, 0);
                }
            }
        }

        void comeEvent(int number, int detail) {
            if (number < 0 || number >= EVENTS) {
                return;
            }
            if (isTold[number]) {
                make(1, number, detail, 0);
            }
            if (isActing && action[number] != NO_ACTION) {
                commands.push(commands.templateAt(action[number]), Commands.NO_ORDER, 'a');
            }
        }

        void tellEvent(int number, boolean told) {
            if (number >= 0 && number < EVENTS) {
                isTold[number] = told;
            }
        }

        void setAction(int number, int template) {
            if (number >= 0 && number < EVENTS) {
                action[number] = template;
            }
        }

        /** The row from which the next frame down takes its report, null if it takes none. */
        ReportRow rowToTell() {
            if (atOnce.size > 0) {
                return atOnce;
            }
            return world.isPass() && played.size > 0 ? played : null;
        }

        int storeSize(int store) {
            ReportRow row = store >= 0 && store < STORES ? stores[store] : null;
            return row == null ? 0 : row.size;
        }

        int storeNumber(int store, int index) {
            ReportRow row = store >= 0 && store < STORES ? stores[store] : null;
            return row == null ? 0 : row.cell(index, ReportRow.NUMBER);
        }

        void chooseClass(int store, int sort, boolean takes) {
            if (store >= 0 && store < STORES) {
                classes[store] = takes ? classes[store] | 1 << sort : classes[store] & ~(1 << sort);
            }
        }

        void chooseRing(int store, boolean ring) {
            if (store >= 0 && store < STORES) {
                isRing[store] = ring;
            }
        }

        void playBack(int store, int from, int to) {
            ReportRow row = store >= 0 && store < STORES ? stores[store] : null;
            if (row == null) {
                return;
            }
            for (int i = 0; i < row.size && !played.isFull(); i++) {
                if (isWithin(row.cell(i, ReportRow.NUMBER), from, to)) {
                    played.add(row.cells, row.startOf(i));
                }
            }
        }

        /** A store rises by NUMBER: what is to go stands at its beginning. */
        void erase(int store, int upTo) {
            ReportRow row = store >= 0 && store < STORES ? stores[store] : null;
            if (row == null) {
                return;
            }
            for (int i = 0; i < STORE_MOST && row.size > 0 && row.cell(0, ReportRow.NUMBER) <= upTo; i++) {
                row.dropFirst();
            }
        }

        int structureCell(int structure, int index) {
            if (structure < 0 || structure >= STRUCTURES || index < 0 || index >= STRUCTURE_MOST) {
                return 0;
            }
            return structureCells[structure * STRUCTURE_MOST + index];
        }

        boolean addToStructure(int structure, int parameter) {
            if (structure < 0 || structure >= STRUCTURES) {
                return false;
            }
            int size = structureSize[structure];
            if (parameter < 0) {
                structureSize[structure] = 0;
                return true;
            }
            if (size < 0 || size >= STRUCTURE_MOST) {
                return false;
            }
            structureCells[structure * STRUCTURE_MOST + size] = parameter;
            structureSize[structure] = size + 1;
            return true;
        }

        void tellEvery(int structure, int ticks) {
            if (structure >= 0 && structure < STRUCTURES) {
                every[structure] = ticks;
            }
        }

        boolean isDue(int structure) {
            if (structure < 0 || structure >= STRUCTURES || structureSize[structure] == 0 || every[structure] <= 0) {
                return false;
            }
            return world.tick % every[structure] == 0;
        }

        /** By a command from 21 to 23, whose KIND tells how it looks. */
        void tellMonitor(Command c) {
            if (c.x < 0 || c.x >= MONITORS) {
                return;
            }
            int[] m = monitors[c.x];
            m[HOW] = c.kind - 20;
            m[PARAMETER] = c.y;
            m[FIRST_NUMBER] = c.z;
            m[SECOND_NUMBER] = c.u;
            m[TIMES] = c.v;
            m[EVENT] = c.w;
            m[IS_ON] = 0;
            m[BAD_COUNT] = 0;
            m[HAS_LAST] = 0;
        }

        boolean switchMonitor(int monitor, int on) {
            if (monitor < 0 || monitor >= MONITORS || monitors[monitor][HOW] == 0) {
                return false;
            }
            int[] m = monitors[monitor];
            m[IS_ON] = on;
            m[BAD_COUNT] = 0;
            m[HAS_LAST] = 0;
            return true;
        }

        /** The parameter at which a monitor looks, -1 if it does not look. */
        int watched(int monitor) {
            boolean looks = monitor >= 0 && monitor < MONITORS && monitors[monitor][IS_ON] == 1;
            return looks ? monitors[monitor][PARAMETER] : -1;
        }

        void look(int monitor, int value) {
            if (monitor < 0 || monitor >= MONITORS) {
                return;
            }
            int[] m = monitors[monitor];
            boolean isBad = isBadValue(m, value);
            m[BAD_COUNT] = isBad ? m[BAD_COUNT] + 1 : 0;
            m[HAS_LAST] = 1;
            m[LAST] = value;
            if (isBad && m[BAD_COUNT] == m[TIMES]) {
                comeEvent(m[EVENT], value);
            }
        }

        boolean isBadValue(int[] m, int value) {
            if (m.length < MONITOR_WIDTH) {
                return false;
            }
            if (m[HOW] == BY_LIMITS) {
                return value < m[FIRST_NUMBER] || value > m[SECOND_NUMBER];
            }
            if (m[HOW] == BY_BITS) {
                return (value & m[FIRST_NUMBER]) != m[SECOND_NUMBER];
            }
            return m[HAS_LAST] == 1 && Math.abs((long) value - (long) m[LAST]) > (long) m[FIRST_NUMBER];
        }

        boolean isFitting() {
            if (atOnce.size > AT_ONCE_MOST || played.size > PLAYED_MOST || !atOnce.isRising()) {
                return false;
            }
            for (int i = 0; i < STORES; i++) {
                ReportRow row = stores[i];
                if (row == null || row.size > STORE_MOST || !row.isRising()) {
                    return false;
                }
            }
            for (int i = 0; i < STRUCTURES; i++) {
                if (structureSize[i] > STRUCTURE_MOST) {
                    return false;
                }
            }
            return true;
        }
    }

    /** The banks, bit by bit, the images in two of them, and the files. */
    private static final class Memory {
        static final int BANKS = 4;
        static final int PLACES = 64;
        static final int BITS = 13;
        static final int ALL_BITS = 0x1FFF;
        // The places from 1 to 12 that have 1, 2, 4 or 8 in them: the exclusive or of places, by its four bits.
        static final int PLACES_WITH_1 = 0x0AAA;
        static final int PLACES_WITH_2 = 0x0CCC;
        static final int PLACES_WITH_4 = 0x10F0;
        static final int PLACES_WITH_8 = 0x1F00;
        static final int FIRST_IMAGE = 2;
        static final int CONSTANTS = 8;
        static final int NOT_MENDABLE = -1;
        static final int FILES = 3;
        static final int PARTS = 16;
        static final int PART_CELLS = 4;
        static final int D_FIRST = 7;
        private static final int[] FIRST_BYTES = {40, 25, 3, 50, 20, 4, 95, 105};

        final int[] words = new int[BANKS * PLACES];
        final boolean[] isWhole = new boolean[2];
        final boolean[] isBegun = new boolean[2];
        final int[] imageSum = new int[2];
        int nextImage = FIRST_IMAGE;
        int startedFrom = FIRST_IMAGE;
        int mended;
        int notMended;
        final int[] fileCells = new int[FILES * PARTS * PART_CELLS];
        final boolean[] isThere = new boolean[FILES * PARTS];
        final boolean[] isFileWhole = new boolean[FILES];

        Memory() {
            for (int i = 0; i < CONSTANTS && i < FIRST_BYTES.length; i++) {
                write(0, i, FIRST_BYTES[i]);
                write(FIRST_IMAGE, i, FIRST_BYTES[i]);
                write(FIRST_IMAGE + 1, i, FIRST_BYTES[i]);
            }
            for (int i = 0; i < 2; i++) {
                write(FIRST_IMAGE + i, CONSTANTS, i + 1);
                isWhole[i] = true;
                imageSum[i] = sumOf(FIRST_IMAGE + i, 0, PLACES - 1);
            }
        }

        int wordAt(int bank, int place) {
            boolean isThere = bank >= 0 && bank < BANKS && place >= 0 && place < PLACES;
            return isThere ? words[bank * PLACES + place] : 0;
        }

        void putWord(int bank, int place, int word) {
            if (bank >= 0 && bank < BANKS && place >= 0 && place < PLACES) {
                words[bank * PLACES + place] = word;
            }
        }

        int read(int bank, int place) {
            return byteOf(corrected(wordAt(bank, place)));
        }

        void write(int bank, int place, int value) {
            putWord(bank, place, wordOf(value));
        }

        /** C0 to C7. */
        int constant(int index) {
            return byteOf(corrected(wordAt(0, index)));
        }

        int sumOf(int bank, int from, int to) {
            int sum = D_FIRST;
            for (int place = from; place <= to && place < PLACES; place++) {
                sum = summed(sum, byteOf(corrected(wordAt(bank, place))));
            }
            return sum;
        }

        static int summed(int sum, int number) {
            return (257 * sum + number) % 65521;
        }

        static int wordOf(int value) {
            int word = (value & 0x01) << 3 | (value & 0x0E) << 4 | (value & 0xF0) << 5;
            word |= (Integer.bitCount(word & PLACES_WITH_1) & 1) << 1
                    | (Integer.bitCount(word & PLACES_WITH_2) & 1) << 2
                    | (Integer.bitCount(word & PLACES_WITH_4) & 1) << 4
                    | (Integer.bitCount(word & PLACES_WITH_8) & 1) << 8;
            return word | Integer.bitCount(word) & 1;
        }

        static int byteOf(int word) {
            return word < 0 ? 0 : word >> 3 & 0x01 | word >> 4 & 0x0E | word >> 5 & 0xF0;
        }

        /** The word with its wrong bit turned, NOT_MENDABLE if that can't be. */
        static int corrected(int word) {
            int places = Integer.bitCount(word & PLACES_WITH_1) & 1
                    | (Integer.bitCount(word & PLACES_WITH_2) & 1) << 1
                    | (Integer.bitCount(word & PLACES_WITH_4) & 1) << 2
                    | (Integer.bitCount(word & PLACES_WITH_8) & 1) << 3;
            boolean isOdd = (Integer.bitCount(word & ALL_BITS) & 1) == 1;
            if (!isOdd) {
                return places == 0 ? word : NOT_MENDABLE;
            }
            return places < BITS ? word ^ 1 << places : NOT_MENDABLE;
        }

        boolean isImage(int image) {
            return isWithin(image, FIRST_IMAGE, FIRST_IMAGE + 1);
        }

        boolean beginImage(int image) {
            if (!isImage(image) || startedFrom == image) {
                return false;
            }
            isBegun[image - FIRST_IMAGE] = true;
            isWhole[image - FIRST_IMAGE] = false;
            for (int place = 0; place < PLACES; place++) {
                write(image, place, 0);
            }
            return true;
        }

        boolean fillImage(Command c) {
            if (!isImage(c.x) || !isBegun[c.x - FIRST_IMAGE]) {
                return false;
            }
            write(c.x, c.y, c.z);
            write(c.x, c.y + 1, c.u);
            write(c.x, c.y + 2, c.v);
            write(c.x, c.y + 3, c.w);
            return true;
        }

        boolean endImage(int image, int sum) {
            if (!isImage(image) || !isBegun[image - FIRST_IMAGE] || sumOf(image, 0, PLACES - 1) != sum) {
                return false;
            }
            isBegun[image - FIRST_IMAGE] = false;
            isWhole[image - FIRST_IMAGE] = true;
            imageSum[image - FIRST_IMAGE] = sum;
            return true;
        }

        boolean chooseImage(int image) {
            if (!isImage(image) || !isWhole[image - FIRST_IMAGE]) {
                return false;
            }
            nextImage = image;
            return true;
        }

        int otherImage() {
            return 2 * FIRST_IMAGE + 1 - nextImage;
        }

        boolean canStartFrom(int image) {
            return isImage(image) && isWhole[image - FIRST_IMAGE]
                    && sumOf(image, 0, PLACES - 1) == imageSum[image - FIRST_IMAGE];
        }

        /** Tells whether there was an image to start from. */
        boolean load() {
            int image = canStartFrom(nextImage) ? nextImage : canStartFrom(otherImage()) ? otherImage() : -1;
            startedFrom = image;
            if (image < 0) {
                return false;
            }
            nextImage = image;
            for (int i = 0; i < CONSTANTS; i++) {
                write(0, i, read(image, i));
            }
            return true;
        }

        boolean hasPart(int file, int part) {
            return isWithin(file, 0, FILES - 1) && isWithin(part, 0, PARTS - 1) && isThere[file * PARTS + part];
        }

        int partCell(int file, int part, int index) {
            if (!isWithin(file, 0, FILES - 1) || !isWithin(part, 0, PARTS - 1) || !isWithin(index, 0, PART_CELLS - 1)) {
                return 0;
            }
            return fileCells[(file * PARTS + part) * PART_CELLS + index];
        }

        int countParts(int file) {
            int parts = 0;
            for (int part = 0; part < PARTS; part++) {
                parts += hasPart(file, part) ? 1 : 0;
            }
            return parts;
        }

        boolean isWholeFile(int file) {
            return isWithin(file, 0, FILES - 1) && isFileWhole[file];
        }

        boolean putPart(Command c) {
            if (!isWithin(c.x, 0, FILES - 1) || !isWithin(c.y, 0, PARTS - 1) || isFileWhole[c.x]) {
                return false;
            }
            int part = c.x * PARTS + c.y;
            isThere[part] = true;
            fileCells[part * PART_CELLS] = c.z;
            fileCells[part * PART_CELLS + 1] = c.u;
            fileCells[part * PART_CELLS + 2] = c.v;
            fileCells[part * PART_CELLS + 3] = c.w;
            return true;
        }

        /** The first of so many parts that is not there, -1 if all are. */
        int firstMissing(int file, int parts) {
            for (int part = 0; part < parts && part < PARTS; part++) {
                if (!hasPart(file, part)) {
                    return part;
                }
            }
            return -1;
        }

        int sumOfParts(int file, int parts) {
            int sum = D_FIRST;
            for (int part = 0; part < parts && part < PARTS; part++) {
                for (int i = 0; i < PART_CELLS; i++) {
                    sum = summed(sum, Math.floorMod(partCell(file, part, i), 65536));
                }
            }
            return sum;
        }

        void dropParts(int file, int from) {
            if (!isWithin(file, 0, FILES - 1)) {
                return;
            }
            for (int part = Math.max(0, from); part < PARTS; part++) {
                isThere[file * PARTS + part] = false;
            }
        }

        void setWhole(int file, boolean whole) {
            if (isWithin(file, 0, FILES - 1)) {
                isFileWhole[file] = whole;
            }
        }
    }

    /** The units, as the board knows them and as they are in truth, and what it measures and turns by them. */
    private static final class Units {
        static final int COUNT = 15;
        static final int TRANSMITTER = 2;
        static final int GYRO = 4;
        static final int SUN_SENSOR = 6;
        static final int HEATER = 8;
        static final int WHEEL = 10;
        static final int PAYLOAD = 14;
        static final int WHEELS_NEEDED = 3;
        static final int STILL_MOST = 6;
        static final char GOOD = 'g';
        static final char DEAD = 'd';
        static final char STUCK = 's';

        final World world;
        final Telemetry telemetry;
        final Memory memory;
        final boolean[] isOn = new boolean[COUNT];
        final boolean[] isBad = new boolean[COUNT];
        final int[] misses = new int[COUNT];
        final int[] still = new int[COUNT];
        final char[] truth = new char[COUNT];
        final int[] lastAnswer = new int[COUNT];
        final boolean[] hasAnswered = new boolean[COUNT];
        int measuredRate;
        int measuredAngle;
        boolean isRateNew;
        boolean isAngleNew;
        int turnedIn = -2;

        Units(World world, Telemetry telemetry, Memory memory) {
            this.world = world;
            this.telemetry = telemetry;
            this.memory = memory;
            for (int unit = 0; unit < COUNT; unit++) {
                truth[unit] = GOOD;
            }
            isOn[0] = true;
            isOn[1] = true;
            isOn[TRANSMITTER] = true;
            isOn[GYRO] = true;
            isOn[SUN_SENSOR] = true;
            isOn[WHEEL] = true;
            isOn[WHEEL + 1] = true;
            isOn[WHEEL + 2] = true;
        }

        boolean isDeaf() {
            return truth[0] == DEAD && truth[1] == DEAD;
        }

        boolean canSpeak() {
            return works(TRANSMITTER) || works(TRANSMITTER + 1);
        }

        boolean isHeated() {
            return works(HEATER) || works(HEATER + 1);
        }

        boolean works(int unit) {
            return unit >= 0 && unit < COUNT && isOn[unit] && truth[unit] != DEAD;
        }

        void putOn(int unit) {
            if (unit >= 0 && unit < COUNT) {
                isOn[unit] = true;
                misses[unit] = 0;
                still[unit] = 0;
            }
        }

        void putOff(int unit) {
            if (unit >= 0 && unit < COUNT) {
                isOn[unit] = false;
            }
        }

        void forgive(int unit) {
            if (unit >= 0 && unit < COUNT) {
                misses[unit] = 0;
                still[unit] = 0;
            }
        }

        void forgiveAll() {
            for (int unit = 0; unit < COUNT; unit++) {
                forgive(unit);
            }
        }

        boolean isHeldBad(int unit) {
            return unit >= 0 && unit < COUNT && isBad[unit];
        }

        void hold(int unit, boolean bad) {
            if (!isUnit(unit)) {
                return;
            }
            isBad[unit] = bad;
            if (bad) {
                isOn[unit] = false;
            } else {
                forgive(unit);
            }
        }

        void putAllOff() {
            for (int unit = TRANSMITTER; unit < COUNT; unit++) {
                isOn[unit] = false;
            }
        }

        /** What is used in a tick, without the board itself. */
        int powerUsed() {
            int used = 2;
            for (int unit = TRANSMITTER; unit < COUNT; unit++) {
                if (isOn[unit]) {
                    used += unit < GYRO ? 5 : unit == PAYLOAD ? 6 : unit >= HEATER && unit < WHEEL ? 3 : 1;
                }
            }
            return used;
        }

        void askAll(boolean isGuarded) {
            isRateNew = false;
            isAngleNew = false;
            int missesMost = memory.constant(2);
            for (int unit = TRANSMITTER; unit < COUNT; unit++) {
                if (isOn[unit]) {
                    ask(unit);
                    if (isGuarded && (misses[unit] >= missesMost || still[unit] >= STILL_MOST)) {
                        giveUp(unit);
                    }
                }
            }
        }

        void ask(int unit) {
            if (!isUnit(unit)) {
                return;
            }
            if (truth[unit] == DEAD) {
                misses[unit]++;
                still[unit] = 0;
                return;
            }
            misses[unit] = 0;
            if (unit >= GYRO && unit < SUN_SENSOR) {
                hearRate(unit);
            } else if (unit >= SUN_SENSOR && unit < HEATER && (truth[unit] == STUCK || world.isSunny())) {
                hearAngle(unit);
            }
        }

        void hearRate(int gyro) {
            if (!isUnit(gyro)) {
                return;
            }
            int rate = truth[gyro] == STUCK ? lastAnswer[gyro] : world.rate;
            boolean isSame = hasAnswered[gyro] && rate == lastAnswer[gyro];
            still[gyro] = isSame && turnedIn == world.tick - 1 ? still[gyro] + 1 : 0;
            hasAnswered[gyro] = true;
            lastAnswer[gyro] = rate;
            if (!isRateNew) {
                isRateNew = true;
                measuredRate = rate;
            }
        }

        void hearAngle(int sensor) {
            if (!isUnit(sensor)) {
                return;
            }
            int angle = truth[sensor] == STUCK ? lastAnswer[sensor] : world.angle;
            lastAnswer[sensor] = angle;
            if (!isAngleNew) {
                isAngleNew = true;
                measuredAngle = angle;
            }
        }

        void giveUp(int unit) {
            hold(unit, true);
            telemetry.comeEvent(1, unit);
            // The two of a pair differ in their last bit alone.
            int other = unit ^ 1;
            if (unit < WHEEL && !isHeldBad(other)) {
                putOn(other);
            }
        }

        void heat() {
            if (world.warmth < memory.constant(6) - 100 && !isOn[HEATER] && !isOn[HEATER + 1]) {
                putOnFirstGood(HEATER);
            }
            if (world.warmth > memory.constant(7) - 100) {
                putOff(HEATER);
                putOff(HEATER + 1);
            }
        }

        /** Of two, the first one that is not held bad. */
        void putOnFirstGood(int first) {
            if (!isHeldBad(first)) {
                putOn(first);
            } else if (!isHeldBad(first + 1)) {
                putOn(first + 1);
            }
        }

        void turnWheels(int aim) {
            int turning = 0;
            for (int wheel = WHEEL; wheel < PAYLOAD; wheel++) {
                turning += works(wheel) ? 1 : 0;
            }
            if (turning < WHEELS_NEEDED || !isRateNew) {
                return;
            }
            int away = isAngleNew ? World.goneRound(aim - measuredAngle) : 0;
            int wanted = World.bounded(away / 20, -4, 4);
            if (wanted == 0) {
                wanted = Integer.compare(away, 0);
            }
            if (measuredRate != wanted) {
                world.turnBy(measuredRate < wanted ? 1 : -1);
                turnedIn = world.tick;
            }
        }

        /** Why the mode is to be SAFE by the units, 0 if it is not. */
        int whyCrippled() {
            if (isBad[GYRO] && isBad[GYRO + 1]) {
                return 2;
            }
            if (isBad[SUN_SENSOR] && isBad[SUN_SENSOR + 1]) {
                return 3;
            }
            int wheels = 0;
            for (int wheel = WHEEL; wheel < PAYLOAD; wheel++) {
                wheels += isBad[wheel] ? 0 : 1;
            }
            return wheels < WHEELS_NEEDED ? 4 : 0;
        }

        void takeShelter() {
            putOff(PAYLOAD);
            if (!isOn[GYRO] && !isOn[GYRO + 1]) {
                putOnFirstGood(GYRO);
            }
            if (!isOn[SUN_SENSOR] && !isOn[SUN_SENSOR + 1]) {
                putOnFirstGood(SUN_SENSOR);
            }
            for (int wheel = WHEEL; wheel < PAYLOAD; wheel++) {
                if (!isBad[wheel]) {
                    putOn(wheel);
                }
            }
        }

        void saveTransmitters(int low, int enough) {
            if (world.battery < low) {
                putOff(TRANSMITTER);
                putOff(TRANSMITTER + 1);
            }
            if (world.battery >= enough && !isOn[TRANSMITTER] && !isOn[TRANSMITTER + 1]) {
                putOnFirstGood(TRANSMITTER);
            }
        }

        int countOn() {
            int count = 0;
            for (int unit = 0; unit < COUNT; unit++) {
                count += isOn[unit] ? 1 : 0;
            }
            return count;
        }

        int countBad() {
            int count = 0;
            for (int unit = 0; unit < COUNT; unit++) {
                count += isBad[unit] ? 1 : 0;
            }
            return count;
        }

        boolean isBadOneOn() {
            for (int unit = 0; unit < COUNT; unit++) {
                if (isOn[unit] && isBad[unit]) {
                    return true;
                }
            }
            return false;
        }
    }

    /** The software: the receiver, how it runs, what commands do, procedures, levels, and the mode. */
    private static final class Board {
        static final char RUNS = 'r';
        static final char RESETS = 's';
        static final char HANGS = 'h';
        static final char STUCK = 'k';
        static final char OUT = 'o';
        static final int SAFE = 0;
        static final int SUN = 1;
        static final int NADIR = 2;
        static final int NADIR_ANGLE = 60;
        static final int DONE = 0;
        static final int NO_KIND = 1;
        static final int OUT_OF_RANGE = 2;
        static final int NOT_LET = 3;
        static final int FAILED = 4;
        static final int KINDS = 44;
        static final int RESET_KIND = 37;
        static final int PROCEDURES = 4;
        static final int RESET_TICKS = 4;
        static final int NO_EVENT = -1;

        final World world;
        final Commands commands;
        final Telemetry telemetry;
        final Memory memory;
        final Units units;
        final Procedure[] procedures = new Procedure[PROCEDURES];
        final boolean[] isLevelOff = new boolean[4];
        final int[] resetIn = new int[3];
        int mode = SUN;
        int safeSince;
        char state = RUNS;
        int counted;
        int resets;
        int next;
        int turn;
        boolean isLocked;
        boolean isWaiting;
        boolean isAgain;
        int lastInOrder = Commands.NO_ORDER;
        boolean isBroken;

        Board(World world, Commands commands, Telemetry telemetry, Memory memory, Units units) {
            this.world = world;
            this.commands = commands;
            this.telemetry = telemetry;
            this.memory = memory;
            this.units = units;
            for (int i = 0; i < PROCEDURES; i++) {
                procedures[i] = new Procedure();
            }
        }

        boolean isAwake() {
            return state == RUNS || state == STUCK;
        }

        boolean isLevelOn(int level) {
            return level >= 1 && level <= 3 && !isLevelOff[level];
        }

        Procedure procedureAt(int number) {
            return number >= 0 && number < PROCEDURES ? procedures[number] : null;
        }

        // The receiver.

        void receive(int sort, int number, int frameTurn, int order) {
            if (units.isDeaf()) {
                return;
            }
            if (sort == Link.CONTROL) {
                takeControl(number, frameTurn);
            } else if (sort == Link.IN_ORDER) {
                takeInOrder(number, order);
            } else if (canTake()) {
                commands.pushOrder(order);
            }
        }

        boolean canTake() {
            return isAwake() && commands.hasRoom();
        }

        void takeControl(int number, int frameTurn) {
            if (!isWithin(Math.floorMod(frameTurn - turn, Ground.TURNS), 1, 100)) {
                return;
            }
            turn = frameTurn;
            isLocked = false;
            isWaiting = false;
            isAgain = false;
            if (number != Ground.NO_NUMBER) {
                next = number;
            }
        }

        void takeInOrder(int number, int order) {
            if (isLocked) {
                return;
            }
            int ahead = Math.floorMod(number - next, Ground.NUMBERS);
            if (ahead == 0) {
                boolean isTaken = canTake();
                isWaiting = !isTaken;
                isAgain = !isTaken;
                if (isTaken) {
                    commands.pushOrder(order);
                    next = (next + 1) % Ground.NUMBERS;
                    isBroken = isBroken || order <= lastInOrder;
                    lastInOrder = order;
                }
            } else if (ahead < 16) {
                isAgain = true;
            } else if (ahead < 48) {
                isLocked = true;
            }
        }

        void tellReceiver(int[] draft) {
            if (draft.length < Link.WIDTH) {
                return;
            }
            draft[Link.NEXT] = next;
            draft[Link.TURN] = turn;
            draft[Link.LOCKED] = asNumber(isLocked);
            draft[Link.WAIT] = asNumber(isWaiting);
            draft[Link.AGAIN] = asNumber(isAgain);
        }

        // A tick.

        void sufferTick() {
            world.drift();
            world.charge(units.powerUsed() + (state == OUT ? 0 : 2));
            if (world.battery == 0 && state != OUT) {
                units.putAllOff();
                reset();
                state = OUT;
            }
            if (world.tick % 4 == 0) {
                world.warm(units.isHeated());
            }
        }

        void live() {
            char was = state;
            if (was == RUNS) {
                workAhead();
            }
            if (was == RUNS || was == STUCK) {
                doCommand();
            }
            if (was == RUNS && state == RUNS) {
                workBehind();
            }
            if (was == RESETS) {
                counted--;
                if (counted <= 0) {
                    start();
                }
            } else if (was == HANGS) {
                hangOn();
            } else if (was == OUT && world.battery >= 50) {
                beginResetting();
                becomeSafe(NO_EVENT);
            }
            if (canTake()) {
                isWaiting = false;
            }
        }

        /** What comes ahead of the one command of a tick. */
        void workAhead() {
            units.askAll(isLevelOn(1));
            units.heat();
            units.turnWheels(mode == NADIR ? NADIR_ANGLE : 0);
            for (int i = 0; i < Telemetry.MONITORS; i++) {
                int watched = telemetry.watched(i);
                if (watched >= 0) {
                    telemetry.look(i, parameterNow(watched));
                }
            }
            commands.lookAtSchedule(world.tick);
            for (int i = 0; i < PROCEDURES; i++) {
                goOn(i);
            }
        }

        /** What comes behind it. */
        void workBehind() {
            for (int i = 0; i < Telemetry.STRUCTURES; i++) {
                tellStructure(i);
            }
            for (int bank = 0; bank < Memory.BANKS; bank++) {
                mend(bank, world.tick % Memory.PLACES);
            }
            keepLevels();
        }

        void hangOn() {
            counted++;
            if (isLevelOn(2) && counted > memory.constant(5)) {
                reset();
            }
        }

        void noteTick() {
            boolean isGood = world.isBounded() && !units.isBadOneOn() && units.isOn[0] && units.isOn[1];
            if (mode == SAFE) {
                isGood = isGood && !commands.isScheduleOn && !telemetry.isActing && !units.isOn[Units.PAYLOAD]
                        && countActive() == 0;
            }
            isBroken = isBroken || !isGood;
        }

        void tellStructure(int structure) {
            if (!telemetry.isDue(structure)) {
                return;
            }
            int size = telemetry.structureSize[structure];
            for (int i = 0; i < size; i++) {
                telemetry.putValue(i, parameterNow(telemetry.structureCell(structure, i)));
            }
            telemetry.make(2, structure, size, size);
        }

        void mend(int bank, int place) {
            int word = memory.wordAt(bank, place);
            int good = Memory.corrected(word);
            if (good == Memory.NOT_MENDABLE) {
                memory.notMended++;
                telemetry.comeEvent(5, bank * Memory.PLACES + place);
            } else if (good != word) {
                memory.putWord(bank, place, good);
                memory.mended++;
                telemetry.comeEvent(4, bank * Memory.PLACES + place);
            }
        }

        int parameterNow(int parameter) {
            switch (parameter) {
                case 0: return world.tick;
                case 1: return mode;
                case 2: return world.battery;
                case 3: return world.warmth;
                case 4: return units.measuredAngle;
                case 5: return units.measuredRate;
                case 6: return commands.size;
                case 7: return commands.entries;
                case 8: return units.countOn();
                case 9: return units.countBad();
                case 10: return next;
                case 11: return asNumber(isLocked);
                case 12: return resets;
                case 13: return memory.mended;
                case 14: return memory.notMended;
                case 15: return commands.lost;
                case 16: return telemetry.atOnce.size;
                case 17: return telemetry.played.size;
                case 18: case 19: case 20: return telemetry.storeSize(parameter - 18);
                case 21: return countRunning();
                case 22: return memory.startedFrom;
                case 23: return asNumber(world.isSunny());
                default: return 0;
            }
        }

        int countRunning() {
            int count = 0;
            for (int i = 0; i < PROCEDURES; i++) {
                Procedure p = procedures[i];
                count += p != null && p.mode == Procedure.RUNNING ? 1 : 0;
            }
            return count;
        }

        int countActive() {
            int count = 0;
            for (int i = 0; i < PROCEDURES; i++) {
                Procedure p = procedures[i];
                count += p != null && p.isActive() ? 1 : 0;
            }
            return count;
        }

        // Starting.

        void reset() {
            commands.endAll(9);
            for (int i = 0; i < PROCEDURES; i++) {
                Procedure p = procedures[i];
                if (p != null && p.isActive()) {
                    p.finish(98);
                }
            }
            commands.isScheduleOn = false;
            telemetry.isActing = false;
            telemetry.atOnce.clear();
            telemetry.played.clear();
            resets++;
            resetIn[2] = resetIn[1];
            resetIn[1] = resetIn[0];
            resetIn[0] = world.tick;
            beginResetting();
        }

        void beginResetting() {
            state = RESETS;
            counted = RESET_TICKS;
        }

        void start() {
            if (resets >= 3 && resetIn[0] - resetIn[2] <= 100) {
                becomeSafe(NO_EVENT);
                memory.nextImage = memory.otherImage();
            }
            if (memory.load()) {
                state = RUNS;
                telemetry.comeEvent(6, memory.startedFrom);
            } else {
                state = STUCK;
            }
        }

        // Levels and the mode.

        void keepLevels() {
            if (mode != SAFE && isLevelOn(3)) {
                int why = world.battery < 10 * memory.constant(0) ? 1 : units.whyCrippled();
                if (why > 0) {
                    becomeSafe(why);
                }
            }
            if (mode == SAFE) {
                units.saveTransmitters(10 * memory.constant(1), 10 * memory.constant(0));
            }
        }

        void becomeSafe(int why) {
            if (mode != SAFE) {
                mode = SAFE;
                safeSince = world.tick;
            }
            commands.isScheduleOn = false;
            telemetry.isActing = false;
            for (int i = 0; i < PROCEDURES; i++) {
                Procedure p = procedures[i];
                if (p != null && p.isActive()) {
                    endProcedure(i, 99);
                }
            }
            units.takeShelter();
            if (why != NO_EVENT) {
                telemetry.comeEvent(2, why);
            }
        }

        int leaveTo(int to) {
            if (mode == SAFE) {
                if (world.tick - safeSince < memory.constant(4) || world.battery < 10 * memory.constant(3)
                        || units.whyCrippled() > 0) {
                    return FAILED;
                }
                telemetry.comeEvent(3, to);
            }
            mode = to;
            return DONE;
        }

        // Procedures.

        void endProcedure(int number, int end) {
            Procedure p = procedureAt(number);
            if (p != null) {
                p.finish(end);
                telemetry.make(5, number, end, 0);
            }
        }

        void goOn(int number) {
            Procedure p = procedureAt(number);
            if (p == null || p.mode != Procedure.RUNNING) {
                return;
            }
            p.ticks++;
            if (p.ticks > p.limit) {
                endProcedure(number, 96);
                telemetry.comeEvent(8, number);
            } else if (p.waitsFor == 0 && p.row >= p.size) {
                endProcedure(number, 0);
            } else if (p.waitsFor == 0) {
                doRow(number, p, p.cell(p.row, 1), p.cell(p.row, 2), p.cell(p.row, 3));
            }
        }

        void doRow(int number, Procedure p, int u, int v, int w) {
            switch (p.cell(p.row, 0)) {
                case 0:
                    endProcedure(number, Math.floorMod(u, 90));
                    return;
                case 1:
                    waitTicks(p, u);
                    return;
                case 2:
                    waitForParameter(p, parameterNow(Math.floorMod(u, Telemetry.PARAMETERS)) >= v, w);
                    return;
                case 3:
                    p.setRegister(u, v);
                    break;
                case 4:
                    p.setRegister(u, p.registerAt(u) + v);
                    break;
                case 5:
                    p.setRegister(u, parameterNow(Math.floorMod(v, Telemetry.PARAMETERS)));
                    break;
                case 6:
                    if (p.registerAt(u) < v) {
                        p.goToTold(w);
                        return;
                    }
                    break;
                case 7:
                    p.goToTold(u);
                    return;
                case 8:
                    p.waitsFor = commands.push(commands.templateAt(Math.floorMod(u, Commands.TEMPLATES)),
                            Commands.NO_ORDER, 'p');
                    if (p.waitsFor != 0) {
                        return;
                    }
                    p.setRegister(3, 9);
                    break;
                default:
                    telemetry.comeEvent(Math.floorMod(u, Telemetry.EVENTS), p.registerAt(v));
            }
            p.goToNext();
        }

        void waitTicks(Procedure p, int ticks) {
            p.ticksAtRow++;
            if (p.ticksAtRow >= ticks) {
                p.goToNext();
            }
        }

        void waitForParameter(Procedure p, boolean isReached, int ticks) {
            p.ticksAtRow++;
            if (isReached || p.ticksAtRow >= ticks) {
                p.setRegister(3, asNumber(isReached));
                p.goToNext();
            }
        }

        // Commands.

        void doCommand() {
            if (commands.size == 0) {
                return;
            }
            Command c = commands.commandAt(0);
            int order = commands.orderAt(0);
            int serial = commands.serialAt(0);
            commands.dropFirst();
            int code = refusal(c);
            if (code == DONE) {
                code = c.kind < 14 ? doBasic(c) : c.kind < 19 ? doProcedure(c) : c.kind < 30 ? doTelemetry(c)
                        : c.kind < 38 ? doMemory(c) : doRest(c);
            }
            endCommand(c, order, serial, code);
            if (c.kind == RESET_KIND && code == DONE) {
                reset();
            }
        }

        void endCommand(Command c, int order, int serial, int code) {
            commands.noteEnd(order, code);
            for (int i = 0; i < PROCEDURES; i++) {
                Procedure p = procedures[i];
                if (p != null) {
                    p.hearEnd(serial, code);
                }
            }
            telemetry.make(0, code, order, 0);
            if (code != DONE) {
                telemetry.comeEvent(0, isWithin(c.kind, 0, KINDS - 1) ? c.kind : KINDS);
            }
        }

        int refusal(Command c) {
            if (!isWithin(c.kind, 0, KINDS - 1)) {
                return NO_KIND;
            }
            if (!(c.kind < 19 ? isInRange(c) : isInFurtherRange(c))) {
                return OUT_OF_RANGE;
            }
            boolean isBarred = mode == SAFE && isBarredInSafe(c)
                    || state == STUCK && c.kind != 0 && !isWithin(c.kind, 33, RESET_KIND);
            return isBarred ? NOT_LET : DONE;
        }

        boolean isBarredInSafe(Command c) {
            switch (c.kind) {
                case 1: return c.x == Units.PAYLOAD && c.y == 1;
                case 6: case 15: return true;
                case 7: case 13: return c.x == 1;
                case 16: return c.y == 0;
                default: return false;
            }
        }

        boolean isInRange(Command c) {
            switch (c.kind) {
                case 1: case 2: return isWithin(c.x, 2, 14) && isWithin(c.y, 0, 1);
                case 3: return isWithin(c.x, 0, 2);
                case 4: return isWithin(c.x, 0, 11) && isWithin(c.y, 0, KINDS - 1);
                case 5: return isWithin(c.x, 0, 11);
                case 6: return isWithin(c.x, 0, 11) && isWithin(c.y, 0, 9999) && isWithin(c.z, 0, 3);
                case 7: case 13: return isWithin(c.x, 0, 1);
                case 8: return isWithin(c.x, 0, 3) && isWithin(c.y, 0, 1);
                case 9: return isWithin(c.x, 0, 3);
                case 10: return isWithin(c.x, 0, 3) && isWithin(c.y, -200, 200);
                case 11: return isWithin(c.x, 0, 15) && isWithin(c.y, 0, 1);
                case 12: return isWithin(c.x, 0, 15) && isWithin(c.y, -1, 11);
                case 14: return isWithin(c.x, 0, 3) && isWithin(c.y, 0, 11) && isWithin(c.z, 0, 9);
                case 15: return isWithin(c.x, 0, 3) && isWithin(c.y, 1, 400);
                case 16: return isWithin(c.x, 0, 3) && isWithin(c.y, 0, 1);
                case 17: case 18: return isWithin(c.x, 0, 3);
                default: return true;
            }
        }

        boolean isInFurtherRange(Command c) {
            switch (c.kind) {
                case 19: return isWithin(c.x, 0, 2) && isWithin(c.y, -1, 23);
                case 20: return isWithin(c.x, 0, 2) && isWithin(c.y, 0, 100);
                case 21: case 22: case 23: return isMonitorInRange(c);
                case 24: return isWithin(c.x, 0, 5) && isWithin(c.y, 0, 1);
                case 25: return isWithin(c.x, 0, 2) && isWithin(c.y, 0, 5) && isWithin(c.z, 0, 1);
                case 26: return isWithin(c.x, 0, 2) && isWithin(c.y, 0, 1);
                case 27: case 29: return isWithin(c.x, 0, 2);
                case 30: return isWithin(c.x, 0, 1) && isWithin(c.y, 0, 63) && isWithin(c.z, 0, 255);
                case 31: return isWithin(c.x, 0, 3) && isWithin(c.y, 0, 63) && isWithin(c.z, 1, 6) && c.y + c.z <= 64;
                case 32: return isWithin(c.x, 0, 3) && isWithin(c.y, 0, 63) && isWithin(c.z, c.y, 63);
                case 33: case 35: case 36: return isWithin(c.x, 2, 3);
                case 34: return isWithin(c.x, 2, 3) && isWithin(c.y, 0, 60) && isWithin(c.z, 0, 255)
                        && isWithin(c.u, 0, 255) && isWithin(c.v, 0, 255) && isWithin(c.w, 0, 255);
                case 38: case 43: return isWithin(c.x, 0, 2) && isWithin(c.y, 0, 15);
                case 39: return isWithin(c.x, 0, 2) && isWithin(c.y, 1, 16);
                case 40: return isWithin(c.x, 0, 2);
                case 41: return isWithin(c.x, 1, 3) && isWithin(c.y, 0, 1);
                default: return true;
            }
        }

        boolean isMonitorInRange(Command c) {
            return isWithin(c.x, 0, 5) && isWithin(c.y, 0, 23) && isWithin(c.v, 1, 9) && isWithin(c.w, 0, 15)
                    && (c.kind != 23 || c.z >= 0);
        }

        int endBy(boolean isDone) {
            return isDone ? DONE : FAILED;
        }

        int doBasic(Command c) {
            switch (c.kind) {
                case 1: return switchUnit(c);
                case 2: units.hold(c.x, c.y == 1); return DONE;
                case 3:
                    if (c.x != SAFE) {
                        return leaveTo(c.x);
                    }
                    if (mode != SAFE) {
                        becomeSafe(0);
                    }
                    return DONE;
                case 4: commands.setTemplate(c.x, new Command(c.y, c.z, c.u, c.v, c.w, 0, 0)); return DONE;
                case 5: completeTemplate(c); return DONE;
                case 6: return endBy(c.y > world.tick && commands.addEntry(commands.templateAt(c.x), c.y, c.z));
                case 7: commands.isScheduleOn = c.x == 1; return DONE;
                case 8: commands.switchGroup(c.x, c.y == 1); return DONE;
                case 9: commands.dropEntries(c.x, c.y, c.z); return DONE;
                case 10: return endBy(commands.shiftEntries(c.x, c.y, world.tick));
                case 11: telemetry.tellEvent(c.x, c.y == 1); return DONE;
                case 12: telemetry.setAction(c.x, c.y); return DONE;
                case 13: telemetry.isActing = c.x == 1; return DONE;
                default: return DONE;
            }
        }

        int switchUnit(Command c) {
            if (c.y == 0) {
                units.putOff(c.x);
                return DONE;
            }
            if (units.isHeldBad(c.x)) {
                return FAILED;
            }
            units.putOn(c.x);
            return DONE;
        }

        void completeTemplate(Command c) {
            Command t = commands.templateAt(c.x);
            commands.setTemplate(c.x, new Command(t.kind, t.x, t.y, t.z, t.u, c.y, c.z));
        }

        int doProcedure(Command c) {
            Procedure p = procedureAt(c.x);
            if (p == null) {
                return FAILED;
            }
            switch (c.kind) {
                case 14: return endBy(p.setRow(c));
                case 15: return endBy(p.start(c.y));
                case 16:
                    return endBy(c.y == 1 ? p.change(Procedure.RUNNING, Procedure.HELD)
                            : p.change(Procedure.HELD, Procedure.RUNNING));
                case 17:
                    if (!p.isActive()) {
                        return FAILED;
                    }
                    endProcedure(c.x, 97);
                    return DONE;
                default: return endBy(p.empty());
            }
        }

        int doTelemetry(Command c) {
            switch (c.kind) {
                case 19: return endBy(telemetry.addToStructure(c.x, c.y));
                case 20: telemetry.tellEvery(c.x, c.y); return DONE;
                case 21: case 22: case 23: telemetry.tellMonitor(c); return DONE;
                case 24: return endBy(telemetry.switchMonitor(c.x, c.y));
                case 25: telemetry.chooseClass(c.x, c.y, c.z == 1); return DONE;
                case 26: telemetry.chooseRing(c.x, c.y == 1); return DONE;
                case 27: telemetry.playBack(c.x, c.y, c.z); return DONE;
                case 28: telemetry.played.clear(); return DONE;
                default: telemetry.erase(c.x, c.y); return DONE;
            }
        }

        int doMemory(Command c) {
            switch (c.kind) {
                case 30: memory.write(c.x, c.y, c.z); return DONE;
                case 31: readOut(c); return DONE;
                case 32:
                    telemetry.putValue(0, memory.sumOf(c.x, c.y, c.z));
                    telemetry.make(3, 10 + c.x, c.y, 1);
                    return DONE;
                case 33: return endBy(memory.beginImage(c.x));
                case 34: return endBy(memory.fillImage(c));
                case 35: return endBy(memory.endImage(c.x, c.y));
                case 36: return endBy(memory.chooseImage(c.x));
                default: return DONE;
            }
        }

        void readOut(Command c) {
            for (int i = 0; i < c.z && i < ReportRow.VALUES_MOST; i++) {
                telemetry.putValue(i, memory.read(c.x, c.y + i));
            }
            telemetry.make(3, c.x, c.y, c.z);
        }

        int doRest(Command c) {
            switch (c.kind) {
                case 38: return endBy(memory.putPart(c));
                case 39: return endFile(c.x, c.y, c.z);
                case 40:
                    memory.dropParts(c.x, 0);
                    memory.setWhole(c.x, false);
                    return DONE;
                case 41: switchLevel(c.x, c.y == 1); return DONE;
                case 42: units.forgiveAll(); return DONE;
                default: return tellPart(c.x, c.y);
            }
        }

        int endFile(int file, int parts, int sum) {
            if (memory.isWholeFile(file)) {
                return FAILED;
            }
            int missing = memory.firstMissing(file, parts);
            if (missing >= 0) {
                telemetry.make(4, file, missing, 0);
                return FAILED;
            }
            if (memory.sumOfParts(file, parts) != sum) {
                memory.dropParts(file, 0);
                return FAILED;
            }
            memory.dropParts(file, parts);
            memory.setWhole(file, true);
            telemetry.comeEvent(9, file);
            return DONE;
        }

        void switchLevel(int level, boolean on) {
            if (level >= 1 && level <= 3) {
                isLevelOff[level] = !on;
            }
        }

        int tellPart(int file, int part) {
            if (!memory.hasPart(file, part)) {
                return FAILED;
            }
            for (int i = 0; i < Memory.PART_CELLS; i++) {
                telemetry.putValue(i, memory.partCell(file, part, i));
            }
            telemetry.make(4, file, part, Memory.PART_CELLS);
            return DONE;
        }

        boolean isFitting() {
            for (int i = 0; i < PROCEDURES; i++) {
                Procedure p = procedures[i];
                if (p == null || p.size > Procedure.ROWS || p.row > Procedure.ROWS) {
                    return false;
                }
            }
            return true;
        }
    }
}
