/** A lane down a slope, the things that roll on it, and the wheel at its foot. */
public final class RollTown {
    private static final int BEYOND = -1000001;
    private static final int FULL = -1000002;
    private static final int KIND = -1000003;
    private static final int NONE = -1000004;
    private static final int STATE = -1000005;
    private static final int MISSING = -1000006;
    private static final int SIZE = -1000007;
    private static final int FINDINGS = 7;

    private static final int CELLS = 31;
    private static final int FOOT = 30;
    private static final int STEEPEST = 9;
    private static final int STONE = 0;
    private static final int SAND = 1;
    private static final int STRAW = 2;
    private static final int BEND = 3;
    private static final int GATE = 4;
    private static final int GROUNDS = 5;
    private static final int HOUR = 60;
    private static final int LAST_MINUTE = 9999;
    /** A roll alone, and a look ahead for meetings, go no farther than this. */
    private static final int LONGEST = 200;
    private static final int LONGEST_WAIT = 59;

    private static final int THING = 0;
    private static final int CHEESE = 1;
    private static final int DRUM = 2;
    private static final int ROCK = 3;
    private static final int BALE = 4;
    private static final int RING = 5;
    private static final int BOX = 6;
    private static final int KINDS = 7;
    private static final int[] KIND_ABOVE = {-1, THING, THING, CHEESE, DRUM, CHEESE, THING};
    private static final int[] PLAIN_DRAG = {2, 12, 30, 4, 2};

    private static final int AT_REST = 0;
    private static final int ROLLING = 1;
    private static final int OUT = 2;
    private static final int UP = 3;

    private static final int MOST_THINGS = 10;
    private static final int SETS = 1 << MOST_THINGS;
    private static final int HEAVIEST = 99;
    private static final int MOST_ROLLS = 9;
    private static final int MOST_LEAN = 9;
    private static final int TOP_SPEED = 99;
    private static final int FIRST_SPEED = 10;
    private static final int SPOTS = 10;
    private static final int SHEETS = 4;
    private static final int LONGEST_SHEET = 40;
    private static final int TAPE = 120;
    private static final int DRUM_HOLDS = 999;

    private final Town now = new Town();
    private final Town kept = new Town();
    private boolean isKept = false;
    /** Looks ahead are played on these two, so that now stays as it is. */
    private final Town later = new Town();
    private final Town trial = new Town();
    private final Roll roll = new Roll();
    private final Packing packing = new Packing();
    private final int[] queue = new int[MOST_THINGS];
    private final Reader tape = new Reader();
    private final Sheet[] sheets = new Sheet[SHEETS];
    private final int[] refusals = new int[FINDINGS];

    public RollTown() {
        for (int s = 0; s < SHEETS; s++) {
            sheets[s] = new Sheet();
        }
    }

    // ---- the lane, things

    public int fall(int cell, int v) {
        if (!isCell(cell) || !isFall(v)) {
            return refuse(BEYOND);
        }
        int was = now.falls[cell];
        now.falls[cell] = v;
        return was;
    }

    public int ground(int cell, int v) {
        if (!isCell(cell) || !within(v, STONE, GATE)) {
            return refuse(BEYOND);
        }
        int was = now.grounds[cell];
        now.grounds[cell] = v;
        return was;
    }

    public int gate(int what, int v) {
        if (!within(what, 0, 1) || !isMinuteOfHour(v)) {
            return refuse(BEYOND);
        }
        int was = what == 0 ? now.shutFirst : now.shutLast;
        if (what == 0) {
            now.shutFirst = v;
        } else {
            now.shutLast = v;
        }
        return was;
    }

    public int shut(int minute) {
        if (!within(minute, 0, LAST_MINUTE)) {
            return refuse(BEYOND);
        }
        return now.gatesAreShut(minute) ? 1 : 0;
    }

    public int thing(int kind, int weight) {
        if (!isKind(kind) || !isWeight(weight)) {
            return refuse(BEYOND);
        }
        if (now.isFull()) {
            return refuse(FULL);
        }
        now.addThing(kind, weight);
        return now.size - 1;
    }

    public int of(int thing, int what) {
        if (!isThing(thing) || !within(what, 0, 8)) {
            return refuse(BEYOND);
        }
        Thing t = now.things[thing];
        switch (what) {
            case 0: return t.kind;
            case 1: return t.weight;
            case 2: return t.rolls;
            case 3: return t.lean;
            case 4: return t.cell;
            case 5: return t.speed;
            case 6: return t.state;
            case 7: return t.damage;
            default: return t.bendLimit();
        }
    }

    public int change(int thing, int what, int v) {
        if (!isThing(thing)) {
            return refuse(BEYOND);
        }
        Thing t = now.things[thing];
        int was;
        if (what == 0 && isKind(v)) {
            was = t.kind;
            t.kind = v;
        } else if (what == 1 && isWeight(v)) {
            was = t.weight;
            t.weight = v;
        } else if (what == 2 && isRolls(v)) {
            was = t.rolls;
            t.rolls = v;
        } else if (what == 3 && isLean(v)) {
            was = t.lean;
            t.lean = v;
        } else {
            return refuse(BEYOND);
        }
        return was;
    }

    public int told(int thing, int what, int cell) {
        if (!isThing(thing) || !within(what, 0, 1) || !isCell(cell)) {
            return refuse(BEYOND);
        }
        Thing t = now.things[thing];
        return what == 0 ? t.gainFrom(now.falls[cell]) : t.dragOn(now.grounds[cell]);
    }

    public int go(int thing) {
        if (!isThing(thing)) {
            return refuse(BEYOND);
        }
        Thing t = now.things[thing];
        if (!t.canBeLetGo()) {
            return refuse(STATE);
        }
        t.letGo(FIRST_SPEED);
        return t.cell;
    }

    public int put(int thing, int cell) {
        if (!isThing(thing) || !isCell(cell)) {
            return refuse(BEYOND);
        }
        Thing t = now.things[thing];
        int was = t.cell;
        t.cell = cell;
        t.stop();
        return was;
    }

    // ---- minutes

    public int minutes(int n) {
        if (!within(n, 1, 120)) {
            return refuse(BEYOND);
        }
        if (now.minute > LAST_MINUTE - n) {
            return refuse(STATE);
        }
        int outBefore = Integer.bitCount(now.allIn(OUT));
        int met = now.passMinutes(n);
        return met + Integer.bitCount(now.allIn(OUT)) - outBefore;
    }

    public int are(int state) {
        if (!within(state, AT_REST, UP)) {
            return refuse(BEYOND);
        }
        return now.allIn(state);
    }

    public int on(int cell) {
        if (!isCell(cell)) {
            return refuse(BEYOND);
        }
        return now.allOn(cell);
    }

    public int ahead(int n, int what) {
        if (!within(n, 0, LONGEST) || !(within(what, 0, 3) || what > 3 && isThing(what - 4))) {
            return refuse(BEYOND);
        }
        if (now.minute > LAST_MINUTE - n) {
            return refuse(STATE);
        }
        later.become(now);
        later.passMinutes(n);
        switch (what) {
            case 0: return later.allIn(ROLLING);
            case 1: return later.allIn(OUT);
            case 2: return later.restingOnFoot();
            case 3: return later.damageOfAll();
            default: return later.things[what - 4].cell;
        }
    }

    public int meet() {
        if (now.minute > LAST_MINUTE - LONGEST) {
            return refuse(STATE);
        }
        later.become(now);
        int first = later.firstMeeting(LONGEST);
        return first == 0 ? refuse(NONE) : first;
    }

    // ---- a roll alone

    public int ends(int thing) {
        int finding = againstRoll(thing);
        if (finding != 0) {
            return refuse(finding);
        }
        roll.run(now, now.things[thing]);
        return roll.goesStill() ? refuse(NONE) : roll.place();
    }

    public int takes(int thing) {
        int finding = againstRoll(thing);
        if (finding != 0) {
            return refuse(finding);
        }
        roll.run(now, now.things[thing]);
        return roll.goesStill() ? refuse(NONE) : roll.took;
    }

    public int speed(int thing) {
        int finding = againstRoll(thing);
        if (finding != 0) {
            return refuse(finding);
        }
        roll.run(now, now.things[thing]);
        return roll.fastest;
    }

    public int seen(int thing) {
        int finding = againstRoll(thing);
        if (finding != 0) {
            return refuse(finding);
        }
        roll.run(now, now.things[thing]);
        return roll.cells;
    }

    public int sand(int thing, int cell) {
        if (!isCell(cell)) {
            return refuse(BEYOND);
        }
        int finding = againstRoll(thing);
        if (finding != 0) {
            return refuse(finding);
        }
        for (int c = 0; c < CELLS; c++) {
            rollWithGround(thing, c, SAND);
            if (roll.endsOn(cell)) {
                return c;
            }
        }
        return refuse(NONE);
    }

    public int rollsFor(int thing) {
        int finding = againstRoll(thing);
        if (finding != 0) {
            return refuse(finding);
        }
        later.become(now);
        for (int rolls = 1; rolls <= MOST_ROLLS; rolls++) {
            later.things[thing].rolls = rolls;
            roll.run(later, later.things[thing]);
            if (roll.endsOn(FOOT)) {
                return rolls;
            }
        }
        return refuse(NONE);
    }

    public int matters(int thing) {
        int finding = againstRoll(thing);
        if (finding != 0) {
            return refuse(finding);
        }
        roll.run(now, now.things[thing]);
        int place = roll.place();
        int set = 0;
        for (int c = 0; c < CELLS; c++) {
            rollWithGround(thing, c, STONE);
            if (roll.place() != place) {
                set |= 1 << c;
            }
        }
        return set;
    }

    public int kindFor(int thing) {
        int finding = againstRoll(thing);
        if (finding != 0) {
            return refuse(finding);
        }
        later.become(now);
        int best = THING;
        int farthest = -2;
        for (int kind = 0; kind < KINDS; kind++) {
            later.things[thing].kind = kind;
            roll.run(later, later.things[thing]);
            if (roll.place() > farthest) {
                farthest = roll.place();
                best = kind;
            }
        }
        return best;
    }

    // ---- the day

    public int wait(int thing) {
        if (!isThing(thing)) {
            return refuse(BEYOND);
        }
        if (!now.things[thing].canBeLetGo() || isTooLateToWait()) {
            return refuse(STATE);
        }
        later.become(now);
        for (int wait = 0; wait <= LONGEST_WAIT; wait++) {
            trial.become(later);
            trial.things[thing].letGo(FIRST_SPEED);
            if (trial.firstMeeting(LONGEST) == 0) {
                return wait;
            }
            later.passMinute();
        }
        return refuse(NONE);
    }

    public int behind(int one, int other) {
        if (!isThing(one) || !isThing(other) || one == other) {
            return refuse(BEYOND);
        }
        if (!standTogether(now.things[one], now.things[other]) || isTooLateToWait()) {
            return refuse(STATE);
        }
        later.become(now);
        later.clearAllBut(1 << one | 1 << other);
        later.things[one].letGo(FIRST_SPEED);
        for (int wait = 1; wait <= LONGEST_WAIT; wait++) {
            if (later.passMinute() > 0) {
                return refuse(NONE);
            }
            trial.become(later);
            trial.things[other].letGo(FIRST_SPEED);
            if (trial.firstMeeting(LONGEST) == 0 && Integer.bitCount(trial.restingOnFoot()) == 2) {
                return wait;
            }
        }
        return refuse(NONE);
    }

    public int come() {
        if (isTooLateToRoll()) {
            return refuse(STATE);
        }
        int waiting = now.allIn(AT_REST) & now.allOn(0);
        int coming = 0;
        for (int i = 0; i < now.size; i++) {
            if (has(waiting, i)) {
                roll.run(now, now.things[i]);
                coming += roll.endsOn(FOOT) ? 1 : 0;
            }
        }
        return coming;
    }

    // ---- drums

    public int pack(int things) {
        if (!isSetOfThings(things)) {
            return refuse(BEYOND);
        }
        return packing.leftSide(now, things);
    }

    public int lean(int things) {
        if (!isSetOfThings(things)) {
            return refuse(BEYOND);
        }
        return packing.difference(things, packing.leftSide(now, things));
    }

    public int drums(int things, int most) {
        if (!isSetOfThings(things) || !within(most, 1, DRUM_HOLDS)) {
            return refuse(BEYOND);
        }
        if (now.heaviest(things) > most) {
            return refuse(NONE);
        }
        return packing.fewestDrums(now, things, most);
    }

    // ---- the wheel

    public int waits() {
        return waitsOfQueue(lineUpByNumber());
    }

    public int least() {
        return waitsOfQueue(lineUpByWeight());
    }

    public int order(int i) {
        if (!within(i, 0, MOST_THINGS - 1)) {
            return refuse(BEYOND);
        }
        return i < lineUpByWeight() ? queue[i] : refuse(NONE);
    }

    public int wheel(int n) {
        if (!within(n, 1, 999)) {
            return refuse(BEYOND);
        }
        int length = lineUpByWeight();
        int left = n;
        int brought = 0;
        while (brought < length && now.things[queue[brought]].wheelTime() <= left) {
            left -= now.things[queue[brought]].wheelTime();
            now.things[queue[brought]].state = UP;
            brought++;
        }
        return brought;
    }

    public int odds(int thing, int n) {
        if (!isThing(thing) || !within(n, 1, 20)) {
            return refuse(BEYOND);
        }
        if (!now.things[thing].canBeLetGo() || isTooLateToRoll()) {
            return refuse(STATE);
        }
        int runaways = 0;
        for (int i = 0; i < n; i++) {
            roll.runFrom(now, now.things[thing], FIRST_SPEED + now.draw() % 30);
            runaways += roll.place() < 0 ? 1 : 0;
        }
        return runaways;
    }

    public int worst() {
        int worst = -1;
        int most = 0;
        for (int i = 0; i < now.size; i++) {
            if (now.things[i].damage > most) {
                most = now.things[i].damage;
                worst = i;
            }
        }
        return worst < 0 ? refuse(NONE) : worst;
    }

    public int seed(int v) {
        int was = now.z;
        now.z = v;
        return was;
    }

    // ---- texts

    public int feed(int bytes, int n) {
        if (!within(n, 1, 4)) {
            return refuse(BEYOND);
        }
        if (tape.size > TAPE - n) {
            return refuse(FULL);
        }
        for (int i = n - 1; i >= 0; i--) {
            tape.addByte(bytes >>> 8 * i & 255);
        }
        return tape.size;
    }

    public int wipe() {
        int had = tape.size;
        tape.size = 0;
        return had;
    }

    public int text() {
        // Read into a copy: a FAULT late in the text must leave no trace of its first items.
        later.become(now);
        int items = tape.readText(later);
        if (items > 0) {
            now.become(later);
        }
        tape.size = 0;
        return items;
    }

    // ---- spots, sheets

    public int hold(int spot, int thing) {
        if (!within(spot, 0, SPOTS - 1) || thing != -1 && !isThing(thing)) {
            return refuse(BEYOND);
        }
        now.spots[spot] = thing;
        return 1;
    }

    public int as(int spot, int kind) {
        if (!within(spot, 0, SPOTS - 1) || !isKind(kind)) {
            return refuse(BEYOND);
        }
        int thing = now.spots[spot];
        if (!isThing(thing)) {
            return refuse(MISSING);
        }
        return now.things[thing].isOfKind(kind) ? thing : refuse(KIND);
    }

    public int sheet(int s, int bits, int n) {
        if (!isSheet(s) || bits != 0 && bits != 8 && bits != 16 && bits != 32) {
            return refuse(BEYOND);
        }
        if (n < 0) {
            return refuse(SIZE);
        }
        if (n > LONGEST_SHEET) {
            return refuse(BEYOND);
        }
        sheets[s].begin(bits, n);
        return sheets[s].size;
    }

    public int write(int s, int i, int v) {
        if (!isSheet(s)) {
            return refuse(BEYOND);
        }
        if (sheets[s].isMissing()) {
            return refuse(MISSING);
        }
        if (!within(i, 0, sheets[s].size - 1)) {
            return refuse(BEYOND);
        }
        sheets[s].numbers[i] = sheets[s].cutToBits(v);
        return 1;
    }

    public int copy(int s, int from, int t, int to, int n) {
        if (!isSheet(s) || !isSheet(t)) {
            return refuse(BEYOND);
        }
        if (sheets[s].isMissing() || sheets[t].isMissing()) {
            return refuse(MISSING);
        }
        if (sheets[s].bits != sheets[t].bits) {
            return refuse(KIND);
        }
        if (!sheets[s].hasPart(from, n) || !sheets[t].hasPart(to, n)) {
            return refuse(BEYOND);
        }
        System.arraycopy(sheets[s].numbers, from, sheets[t].numbers, to, n);
        return n;
    }

    public int load(int s, int from) {
        if (!isSheet(s)) {
            return refuse(BEYOND);
        }
        if (sheets[s].isMissing()) {
            return refuse(MISSING);
        }
        if (!isCell(from)) {
            return refuse(BEYOND);
        }
        int most = Math.min(sheets[s].size, CELLS - from);
        int came = 0;
        while (came < most && isFall(sheets[s].numbers[came])) {
            now.falls[from + came] = sheets[s].numbers[came];
            came++;
        }
        return came;
    }

    public int judge(int s, int thing) {
        if (!isSheet(s)) {
            return refuse(BEYOND);
        }
        if (sheets[s].isMissing()) {
            return refuse(MISSING);
        }
        if (!isThing(thing)) {
            return refuse(BEYOND);
        }
        if (now.minute > LAST_MINUTE - sheets[s].size) {
            return refuse(STATE);
        }
        later.become(now);
        for (int i = 0; i < sheets[s].size; i++) {
            later.passMinute();
            if (later.things[thing].cell != sheets[s].numbers[i]) {
                return 1 + i;
            }
        }
        return 0;
    }

    // ---- images

    public int image() {
        kept.become(now);
        isKept = true;
        return 1;
    }

    public int undo() {
        if (!isKept) {
            return refuse(NONE);
        }
        now.become(kept);
        return now.minute;
    }

    public int tear() {
        int was = isKept ? 1 : 0;
        isKept = false;
        return was;
    }

    public int count(int what) {
        switch (what) {
            case 0: return now.minute;
            case 1: return now.size;
            case 2: return now.damageOfAll();
            case 3: return now.weightOfAll();
            case 4: return now.cellsOfStone();
            case 5: return tape.size;
            case 6: return now.z;
            case 7: return now.spotsInUse();
            default: return refuse(BEYOND);
        }
    }

    public int status(int which) {
        if (!within(which, -1, FINDINGS - 1)) {
            return refuse(BEYOND);
        }
        if (which >= 0) {
            return refusals[which];
        }
        int all = 0;
        for (int f = 0; f < FINDINGS; f++) {
            all += refusals[f];
        }
        return all;
    }

    // ---- what the calls share

    /** Every finding goes through here, so that status() misses none. */
    private int refuse(int finding) {
        int which = BEYOND - finding;
        if (within(which, 0, FINDINGS - 1)) {
            refusals[which]++;
        }
        return finding;
    }

    /** The finding that a ROLL ALONE of a THING meets, or 0. */
    private int againstRoll(int thing) {
        if (!isThing(thing)) {
            return BEYOND;
        }
        Thing t = now.things[thing];
        return !t.isStanding() || t.cell == FOOT || isTooLateToRoll() ? STATE : 0;
    }

    private void rollWithGround(int thing, int cell, int laid) {
        int was = now.grounds[cell];
        now.grounds[cell] = laid;
        roll.run(now, now.things[thing]);
        now.grounds[cell] = was;
    }

    private boolean isTooLateToRoll() {
        return now.minute > LAST_MINUTE - LONGEST;
    }

    private boolean isTooLateToWait() {
        return now.minute > LAST_MINUTE - LONGEST - LONGEST_WAIT;
    }

    private static boolean standTogether(Thing one, Thing other) {
        return one.canBeLetGo() && other.canBeLetGo() && one.cell == other.cell;
    }

    private int lineUpByNumber() {
        int resting = now.restingOnFoot();
        int length = 0;
        for (int i = 0; i < now.size; i++) {
            if (has(resting, i)) {
                queue[length] = i;
                length++;
            }
        }
        return length;
    }

    private int lineUpByWeight() {
        int length = lineUpByNumber();
        for (int i = 1; i < length; i++) {
            int moved = queue[i];
            int place = i;
            while (place > 0 && now.things[queue[place - 1]].weight > now.things[moved].weight) {
                queue[place] = queue[place - 1];
                place--;
            }
            queue[place] = moved;
        }
        return length;
    }

    private int waitsOfQueue(int length) {
        int time = 0;
        int sum = 0;
        for (int i = 0; i < length; i++) {
            time += now.things[queue[i]].wheelTime();
            sum += time;
        }
        return sum;
    }

    private boolean isThing(int thing) {
        return within(thing, 0, now.size - 1);
    }

    private boolean isSetOfThings(int things) {
        return within(things, 1, (1 << now.size) - 1);
    }

    private static boolean isCell(int cell) {
        return within(cell, 0, FOOT);
    }

    private static boolean isFall(int v) {
        return within(v, -STEEPEST, STEEPEST);
    }

    private static boolean isMinuteOfHour(int v) {
        return within(v, 0, HOUR - 1);
    }

    private static boolean isKind(int v) {
        return within(v, 0, KINDS - 1);
    }

    private static boolean isWeight(int v) {
        return within(v, 1, HEAVIEST);
    }

    private static boolean isRolls(int v) {
        return within(v, 1, MOST_ROLLS);
    }

    private static boolean isLean(int v) {
        return within(v, 0, MOST_LEAN);
    }

    private static boolean isSheet(int s) {
        return within(s, 0, SHEETS - 1);
    }

    private static boolean within(int v, int low, int high) {
        return v >= low && v <= high;
    }

    private static boolean has(int set, int i) {
        return (set >> i & 1) != 0;
    }

    /** One thing; its slot in a town's row is used again and again. */
    private static final class Thing {
        int kind;
        int weight;
        int rolls;
        int lean;
        int cell;
        int speed;
        int state;
        int damage;

        void beginAs(int itsKind, int itsWeight) {
            kind = itsKind;
            weight = itsWeight;
            rolls = 4;
            lean = 0;
            cell = 0;
            speed = 0;
            state = AT_REST;
            damage = 0;
        }

        void become(Thing other) {
            kind = other.kind;
            weight = other.weight;
            rolls = other.rolls;
            lean = other.lean;
            cell = other.cell;
            speed = other.speed;
            state = other.state;
            damage = other.damage;
        }

        int gainFrom(int slope) {
            int plain = slope * rolls;
            switch (kind) {
                case CHEESE:
                case RING: return plain + 2;
                case ROCK: return plain + 2 + weight / 10;
                case BOX: return Math.min(plain, 0);
                default: return plain;
            }
        }

        int dragOn(int soil) {
            int plain = within(soil, 0, GROUNDS - 1) ? PLAIN_DRAG[soil] : 0;
            switch (kind) {
                case DRUM: return plain + lean;
                case BALE: return plain + lean - (soil == STRAW ? 10 : 0);
                case RING: return plain / 2;
                default: return plain;
            }
        }

        /** TOP: with more SPEED than this it leaves the lane at a BEND. */
        int bendLimit() {
            switch (kind) {
                case CHEESE:
                case RING: return 30;
                case ROCK: return 55;
                case DRUM:
                case BALE: return 40 - 3 * lean;
                default: return 40;
            }
        }

        boolean isOfKind(int wanted) {
            int k = kind;
            for (int steps = 0; steps < KINDS && within(k, 0, KINDS - 1); steps++) {
                if (k == wanted) {
                    return true;
                }
                k = KIND_ABOVE[k];
            }
            return false;
        }

        boolean isStanding() {
            return state == AT_REST || state == ROLLING;
        }

        boolean canBeLetGo() {
            return state == AT_REST && cell != FOOT;
        }

        void letGo(int atSpeed) {
            state = ROLLING;
            speed = atSpeed;
        }

        void stop() {
            state = AT_REST;
            speed = 0;
        }

        int wheelTime() {
            return weight / 10 + 1;
        }
    }

    /** All that an image keeps: the lane, its things, the spots, the minute and z. */
    private static final class Town {
        final int[] falls = new int[CELLS];
        final int[] grounds = new int[CELLS];
        final Thing[] things = new Thing[MOST_THINGS];
        final int[] spots = new int[SPOTS];
        int size = 0;
        int shutFirst = 0;
        int shutLast = 14;
        int minute = 0;
        int z = 1;

        Town() {
            for (int c = 0; c < CELLS; c++) {
                falls[c] = 2;
            }
            for (int i = 0; i < MOST_THINGS; i++) {
                things[i] = new Thing();
            }
            for (int s = 0; s < SPOTS; s++) {
                spots[s] = -1;
            }
        }

        void become(Town other) {
            System.arraycopy(other.falls, 0, falls, 0, CELLS);
            System.arraycopy(other.grounds, 0, grounds, 0, CELLS);
            System.arraycopy(other.spots, 0, spots, 0, SPOTS);
            for (int i = 0; i < other.size; i++) {
                things[i].become(other.things[i]);
            }
            size = other.size;
            shutFirst = other.shutFirst;
            shutLast = other.shutLast;
            minute = other.minute;
            z = other.z;
        }

        boolean isFull() {
            return size >= MOST_THINGS;
        }

        void addThing(int kind, int weight) {
            if (!isFull()) {
                things[size].beginAs(kind, weight);
                size++;
            }
        }

        void clearAllBut(int set) {
            for (int i = 0; i < size; i++) {
                if (!has(set, i)) {
                    things[i].state = OUT;
                }
            }
        }

        boolean gatesAreShut(int inMinute) {
            int m = inMinute % HOUR;
            if (shutFirst <= shutLast) {
                return m >= shutFirst && m <= shutLast;
            }
            return m >= shutFirst || m <= shutLast;
        }

        int passMinutes(int n) {
            int met = 0;
            for (int i = 0; i < n; i++) {
                met += passMinute();
            }
            return met;
        }

        /** Which of the next minutes is the first with a meeting: 1, 2, .., or 0 for none. */
        int firstMeeting(int most) {
            // Where nothing rolls nobody can meet any more: the rest of the minutes is saved.
            for (int m = 1; m <= most && allIn(ROLLING) != 0; m++) {
                if (passMinute() > 0) {
                    return m;
                }
            }
            return 0;
        }

        /** Answers how many MEET. */
        int passMinute() {
            int rolling = allIn(ROLLING);
            int met = 0;
            if (rolling != 0) {
                for (int i = 0; i < size; i++) {
                    if (has(rolling, i)) {
                        rollOn(things[i], minute);
                    }
                }
                met = stopThoseThatMeet(rolling);
            }
            minute++;
            return met;
        }

        /** What one ROLLING thing does in a minute. */
        void rollOn(Thing t, int inMinute) {
            int faster = t.speed + t.gainFrom(falls[t.cell]) - t.dragOn(grounds[t.cell]);
            t.speed = Math.max(0, Math.min(TOP_SPEED, faster));
            boolean gatesShut = gatesAreShut(inMinute);
            int steps = t.speed / 10;
            for (int i = 0; i < steps && t.state == ROLLING && t.speed > 0; i++) {
                stepOn(t, gatesShut);
            }
            if (t.speed == 0 && t.state != OUT) {
                t.stop();
            }
        }

        private void stepOn(Thing t, boolean gatesShut) {
            if (t.cell >= FOOT || gatesShut && grounds[t.cell + 1] == GATE) {
                t.speed = 0;
                return;
            }
            t.cell++;
            if (t.cell == FOOT) {
                t.stop();
            } else if (grounds[t.cell] == BEND && t.speed > t.bendLimit()) {
                t.state = OUT;
            }
        }

        private int stopThoseThatMeet(int wereRolling) {
            int met = 0;
            for (int i = 0; i < size; i++) {
                Thing t = things[i];
                if (has(wereRolling & ~met, i) && t.isStanding() && t.cell > 0 && t.cell < FOOT) {
                    int here = allOn(t.cell);
                    if (Integer.bitCount(here) > 1) {
                        stopWithDamage(here);
                        met |= here;
                    }
                }
            }
            return Integer.bitCount(met);
        }

        private void stopWithDamage(int set) {
            for (int i = 0; i < size; i++) {
                if (has(set, i)) {
                    things[i].stop();
                    things[i].damage++;
                }
            }
        }

        int allIn(int state) {
            int set = 0;
            for (int i = 0; i < size; i++) {
                if (things[i].state == state) {
                    set |= 1 << i;
                }
            }
            return set;
        }

        int allOn(int cell) {
            int set = 0;
            for (int i = 0; i < size; i++) {
                if (things[i].cell == cell && things[i].isStanding()) {
                    set |= 1 << i;
                }
            }
            return set;
        }

        int restingOnFoot() {
            return allIn(AT_REST) & allOn(FOOT);
        }

        int damageOfAll() {
            int sum = 0;
            for (int i = 0; i < size; i++) {
                sum += things[i].damage;
            }
            return sum;
        }

        int weightOfAll() {
            int sum = 0;
            for (int i = 0; i < size; i++) {
                sum += things[i].weight;
            }
            return sum;
        }

        int heaviest(int set) {
            int most = 0;
            for (int i = 0; i < size; i++) {
                if (has(set, i)) {
                    most = Math.max(most, things[i].weight);
                }
            }
            return most;
        }

        int cellsOfStone() {
            int sum = 0;
            for (int c = 0; c < CELLS; c++) {
                sum += grounds[c] == STONE ? 1 : 0;
            }
            return sum;
        }

        int spotsInUse() {
            int sum = 0;
            for (int s = 0; s < SPOTS; s++) {
                sum += spots[s] >= 0 ? 1 : 0;
            }
            return sum;
        }

        int draw() {
            z = z * 1103515245 + 12345;
            return z >>> 8;
        }
    }

    /** A ROLL ALONE, played by a copy of the thing, and what was seen of it. */
    private static final class Roll {
        final Thing rider = new Thing();
        int took = 0;
        int fastest = 0;
        int cells = 0;

        void run(Town town, Thing thing) {
            runFrom(town, thing, FIRST_SPEED);
        }

        void runFrom(Town town, Thing thing, int speedIfLetGo) {
            rider.become(thing);
            if (rider.state == AT_REST) {
                rider.letGo(speedIfLetGo);
            }
            fastest = rider.speed;
            cells = 1 << rider.cell;
            took = 0;
            while (took < LONGEST && rider.state == ROLLING) {
                town.rollOn(rider, town.minute + took);
                took++;
                fastest = Math.max(fastest, rider.speed);
                if (rider.state != OUT) {
                    cells |= 1 << rider.cell;
                }
            }
        }

        boolean goesStill() {
            return rider.state == ROLLING;
        }

        boolean endsOn(int cell) {
            return rider.state == AT_REST && rider.cell == cell;
        }

        /** Its CELL, -1 if it is OUT. */
        int place() {
            return rider.state == OUT ? -1 : rider.cell;
        }
    }

    /** Which things go together, by trying all sets of them. */
    private static final class Packing {
        /** How many drums, times this, and what lies in the last one: one number for each set. */
        private static final int PER_DRUM = 1000;
        /** No more drums are needed than there are things. */
        private static final int MORE_THAN_NEEDED = (MOST_THINGS + 1) * PER_DRUM;
        private final int[] row = new int[SETS];

        int leftSide(Town town, int set) {
            weighAllSets(town);
            int least = set & -set;
            int best = set;
            for (int left = set; left >= least; left--) {
                boolean isPart = (left & ~set) == 0 && (left & least) != 0;
                if (isPart && difference(set, left) <= difference(set, best)) {
                    best = left;
                }
            }
            return best;
        }

        private void weighAllSets(Town town) {
            row[0] = 0;
            for (int i = 0; i < town.size; i++) {
                int bit = 1 << i;
                for (int lower = 0; lower < bit; lower++) {
                    row[bit | lower] = row[lower] + town.things[i].weight;
                }
            }
        }

        /** To be asked behind leftSide: by then the row holds what each set weighs. */
        int difference(int set, int left) {
            return Math.abs(row[set] - 2 * row[left]);
        }

        int fewestDrums(Town town, int set, int most) {
            row[0] = PER_DRUM;
            for (int packed = 1; packed <= set && packed < SETS; packed++) {
                if ((packed & ~set) == 0) {
                    row[packed] = fewestFor(town, packed, most);
                }
            }
            return row[set] / PER_DRUM;
        }

        private int fewestFor(Town town, int packed, int most) {
            int best = MORE_THAN_NEEDED;
            for (int i = 0; i < town.size; i++) {
                if (has(packed, i)) {
                    int before = row[packed ^ 1 << i];
                    int weight = town.things[i].weight;
                    boolean fits = before % PER_DRUM + weight <= most;
                    int after = fits ? before + weight : (before / PER_DRUM + 1) * PER_DRUM + weight;
                    best = Math.min(best, after);
                }
            }
            return best;
        }
    }

    /** THE TAPE, and the reader that goes along it token by token. */
    private static final class Reader {
        private static final int END = 0;
        private static final int WORD = 1;
        private static final int NUMBER = 2;
        private static final int SIGN = 3;
        private static final int OTHER = 4;
        private static final int BLANK = 5;
        /** Above every number that may stand in a text. */
        private static final int TOO_MUCH = 1000;

        final int[] bytes = new int[TAPE];
        int size = 0;
        /** Of each token its first byte, the byte behind it, its type, its value if it is a number. */
        private final int[] begins = new int[TAPE + 1];
        private final int[] ends = new int[TAPE + 1];
        private final int[] types = new int[TAPE + 1];
        private final int[] values = new int[TAPE + 1];
        private int tokens = 0;
        /** The token in hand. */
        private int at = 0;
        /** The numbers read last. */
        private int number = 0;
        private int from = 0;
        private int to = 0;

        void addByte(int b) {
            if (size < TAPE) {
                bytes[size] = b;
                size++;
            }
        }

        /** How many items there were, or -1 less the FAULT. */
        int readText(Town town) {
            splitTape();
            at = 0;
            for (int items = 1; items <= TAPE; items++) {
                if (!readItem(town)) {
                    return -1 - begins[at];
                }
                if (types[at] == END) {
                    return items;
                }
                if (!takeSign(';')) {
                    return -1 - begins[at];
                }
            }
            return -1 - begins[at];
        }

        /** The token behind the last one is the END: it begins where the tape ends. */
        private void splitTape() {
            tokens = 0;
            int before = BLANK;
            for (int i = 0; i < size; i++) {
                int type = typeOf(bytes[i]);
                boolean goesOn = type == before && (type == WORD || type == NUMBER);
                if (type != BLANK && !goesOn) {
                    beginToken(i, type);
                }
                if (type != BLANK && tokens > 0) {
                    growToken(tokens - 1, i);
                }
                before = type;
            }
            beginToken(size, END);
        }

        private void beginToken(int place, int type) {
            if (tokens <= TAPE) {
                begins[tokens] = place;
                ends[tokens] = place;
                types[tokens] = type;
                values[tokens] = 0;
                tokens++;
            }
        }

        private void growToken(int token, int place) {
            ends[token] = place + 1;
            if (types[token] == NUMBER) {
                values[token] = Math.min(TOO_MUCH, values[token] * 10 + bytes[place] - '0');
            }
        }

        private static int typeOf(int b) {
            if (within(b, 'a', 'z')) {
                return WORD;
            }
            if (within(b, '0', '9')) {
                return NUMBER;
            }
            if (b == ' ') {
                return BLANK;
            }
            return b == ';' || b == '-' ? SIGN : OTHER;
        }

        private boolean readItem(Town town) {
            for (int soil = 0; soil < GROUNDS; soil++) {
                if (takeWord(nameOfGround(soil))) {
                    return readGround(town, soil);
                }
            }
            for (int kind = 0; kind < KINDS; kind++) {
                if (isWord(nameOfKind(kind))) {
                    return !town.isFull() && readThing(town, kind);
                }
            }
            if (takeWord("fall")) {
                return readFall(town);
            }
            return takeWord("shut") && readShut(town);
        }

        private boolean readGround(Town town, int soil) {
            if (!takeCells()) {
                return false;
            }
            for (int c = from; c <= to; c++) {
                town.grounds[c] = soil;
            }
            return true;
        }

        private boolean readFall(Town town) {
            if (!takeCells() || !takeWord("by")) {
                return false;
            }
            boolean isMinus = takeSign('-');
            if (!takeNumber(0, STEEPEST)) {
                return false;
            }
            for (int c = from; c <= to; c++) {
                town.falls[c] = isMinus ? -number : number;
            }
            return true;
        }

        private boolean readShut(Town town) {
            if (!takeNumber(0, HOUR - 1)) {
                return false;
            }
            from = number;
            if (!takeWord("to") || !takeNumber(0, HOUR - 1)) {
                return false;
            }
            town.shutFirst = from;
            town.shutLast = number;
            return true;
        }

        private boolean readThing(Town town, int kind) {
            goOn();
            town.addThing(kind, 10);
            Thing t = town.things[town.size - 1];
            if (takeWord("weight")) {
                if (!takeNumber(1, HEAVIEST)) {
                    return false;
                }
                t.weight = number;
            }
            if (takeWord("rolls")) {
                if (!takeNumber(1, MOST_ROLLS)) {
                    return false;
                }
                t.rolls = number;
            }
            if (takeWord("lean")) {
                if (!takeNumber(0, MOST_LEAN)) {
                    return false;
                }
                t.lean = number;
            }
            return true;
        }

        private boolean takeCells() {
            if (!takeNumber(0, FOOT)) {
                return false;
            }
            from = number;
            to = number;
            if (!takeWord("to")) {
                return true;
            }
            if (!takeNumber(from, FOOT)) {
                return false;
            }
            to = number;
            return true;
        }

        private boolean takeWord(String word) {
            boolean isIt = isWord(word);
            if (isIt) {
                goOn();
            }
            return isIt;
        }

        private boolean isWord(String word) {
            if (types[at] != WORD || ends[at] - begins[at] != word.length()) {
                return false;
            }
            for (int i = 0; i < word.length(); i++) {
                if (bytes[begins[at] + i] != word.charAt(i)) {
                    return false;
                }
            }
            return true;
        }

        private boolean takeNumber(int low, int high) {
            if (types[at] != NUMBER || !within(values[at], low, high)) {
                return false;
            }
            number = values[at];
            goOn();
            return true;
        }

        private boolean takeSign(char sign) {
            boolean isIt = types[at] == SIGN && bytes[begins[at]] == sign;
            if (isIt) {
                goOn();
            }
            return isIt;
        }

        private void goOn() {
            if (at < tokens - 1) {
                at++;
            }
        }

        private static String nameOfGround(int soil) {
            switch (soil) {
                case STONE: return "stone";
                case SAND: return "sand";
                case STRAW: return "straw";
                case BEND: return "bend";
                default: return "gate";
            }
        }

        private static String nameOfKind(int kind) {
            switch (kind) {
                case THING: return "thing";
                case CHEESE: return "cheese";
                case DRUM: return "drum";
                case ROCK: return "rock";
                case BALE: return "bale";
                case RING: return "ring";
                default: return "box";
            }
        }
    }

    /** A row of numbers of some bits; with 0 bits it is MISSING. */
    private static final class Sheet {
        final int[] numbers = new int[LONGEST_SHEET];
        int bits = 0;
        int size = 0;

        void begin(int itsBits, int itsSize) {
            bits = itsBits;
            size = itsBits == 0 ? 0 : itsSize;
            for (int i = 0; i < LONGEST_SHEET; i++) {
                numbers[i] = 0;
            }
        }

        boolean isMissing() {
            return bits == 0;
        }

        boolean hasPart(int from, int n) {
            return from >= 0 && n >= 0 && n <= size && from <= size - n;
        }

        int cutToBits(int v) {
            switch (bits) {
                case 8: return (byte) v;
                case 16: return (short) v;
                default: return v;
            }
        }
    }
}
