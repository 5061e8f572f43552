import java.util.Arrays;

/**
 * Riders with bags: a town's crossings, kitchens that are late, orders that are offered and paid
 * by texts, a least pay by law, ratings, bans, sightings, zones and whole nights by other rules.
 * Every call answers an int; answers below -1000000 are findings.
 */
public final class BagRiders {
    private static final int LOW = -1000001;
    private static final int BEYOND = LOW;
    private static final int FULL = LOW - 1;
    private static final int KIND = LOW - 2;
    private static final int NONE = LOW - 3;
    private static final int STATE = LOW - 4;
    private static final int MISSING = LOW - 5;
    private static final int SIZE = LOW - 6;
    private static final int FINDINGS = 7;

    private static final int CROSSINGS = 16;
    private static final int MOST_HEIGHT = 9;
    private static final int ZONES = 4;
    private static final int LONGEST_ROAD = 60;
    private static final int LAST_MINUTE = 1439;
    private static final int LONGEST_WAIT = 600;
    private static final int NO_WAY = -1;

    private static final int MOST_KITCHENS = 6;
    private static final int LONGEST_COOK = 60;
    private static final int MOST_ORDERS = 24;
    private static final int LEAST_PROMISED = 10;
    private static final int MOST_PROMISED = 120;
    private static final int LONGEST_DELAY = 60;
    private static final int MOST_RIDERS = 12;
    private static final int NOBODY = -1;

    private static final int WAITING = 0;
    private static final int GIVEN = 1;
    private static final int CALLED_OFF = 2;

    private static final int KINDS = 7;
    private static final int BIKE = 1;
    private static final int CAR = 2;
    private static final int WALKER = 3;
    private static final int MOTOR = 4;
    private static final int NEWCOMER = 6;
    /** The kind that each kind stands under; RIDER stands under none. */
    private static final int[] UNDER = {-1, 0, 0, 0, 1, 1, 3};

    private static final int STOPS = 4;
    private static final int PICK_ONE = 0;
    private static final int DROP_ONE = 1;
    private static final int PICK_OTHER = 2;
    private static final int DROP_OTHER = 3;
    private static final int LINES = 6;
    /** The six ways to join two ORDERS, four stops each, in the document's order. */
    private static final int[] LINE_STOPS = {
        PICK_ONE, DROP_ONE, PICK_OTHER, DROP_OTHER,
        PICK_OTHER, DROP_OTHER, PICK_ONE, DROP_ONE,
        PICK_ONE, PICK_OTHER, DROP_ONE, DROP_OTHER,
        PICK_ONE, PICK_OTHER, DROP_OTHER, DROP_ONE,
        PICK_OTHER, PICK_ONE, DROP_ONE, DROP_OTHER,
        PICK_OTHER, PICK_ONE, DROP_OTHER, DROP_ONE
    };
    private static final int NO_END = -1;

    private static final int TAPE_BYTES = 80;
    private static final int MOST_TEXTS = 8;
    private static final int NO_TEXT = -1;
    private static final int NO_FAULT = -1;
    private static final int MOST_OPEN = 6;
    private static final int MOST_NUMBER = 9999;
    private static final String NAME_LETTERS = "dwhrlcn";
    private static final int NAMES = 7;
    private static final int NAME_D = 0;
    private static final int NAME_W = 1;
    private static final int NAME_H = 2;
    private static final int NAME_R = 3;
    private static final int NAME_L = 4;
    private static final int NAME_C = 5;
    private static final int NAME_N = 6;

    /** Kinds of TOKENS; a SIGN is told by its own byte, which is above all of these. */
    private static final int TOKEN_END = 0;
    private static final int TOKEN_WRONG = 1;
    private static final int TOKEN_NUMBER = 2;
    private static final int TOKEN_NAME = 3;
    /** Steps of a TEXT: NUMBERS as they are, then NAMES, then what is done with them. */
    private static final int STEP_NAME = MOST_NUMBER + 1;
    private static final int STEP_SIGN = STEP_NAME + NAMES;
    private static final int STEP_NEGATE = STEP_SIGN + 256;

    private static final int MOST_PAY = 9999;
    private static final int MOST_RAINS = 6;
    private static final int MOST_HUNDREDTHS = 99;
    private static final int MOST_LAW = 999;
    private static final int MOST_APPS = 4;

    private static final int BEST_RATING = 50;
    private static final int FIRST_RATING = 25;
    private static final int BY_COOK = 0;
    private static final int BY_WAY = 1;
    private static final int BY_RIDER = 2;
    private static final int MOST_BAN_ORDERS = 9;
    private static final int MOST_SIGHTINGS = 20;

    private static final int SPOTS = 10;
    private static final int SHEETS = 4;
    private static final int SHEET_NUMBERS = 60;

    /** Columns of the rows of three that a World and a Rider hold. */
    private static final int KITCHEN_AT = 0;
    private static final int KITCHEN_COOK = 1;
    private static final int SPAN_FROM = 0;
    private static final int SPAN_TO = 1;
    private static final int RAIN_HUNDREDTHS = 2;
    private static final int TRIP_RIDER = 0;
    private static final int TRIP_BEGIN = 1;
    private static final int TRIP_END = 2;
    private static final int SEEN_RIDER = 0;
    private static final int SEEN_AT = 1;
    private static final int SEEN_MINUTE = 2;

    private final World world;
    private final World kept;
    private boolean isKept;
    private final Tape tape;
    private final Sheet[] sheets;
    private final int[] findings;
    private final Trip plan;
    private final Names names;
    private final Night nightPlan;

    public BagRiders() {
        world = new World();
        kept = new World();
        isKept = false;
        tape = new Tape();
        sheets = new Sheet[SHEETS];
        for (int s = 0; s < SHEETS; s++) {
            sheets[s] = new Sheet();
        }
        findings = new int[FINDINGS];
        plan = new Trip(world.town);
        names = new Names();
        nightPlan = new Night(world, plan, names);
    }

    // ---- the town

    public int crossing(int c, int what, int v) {
        int most = what == 0 ? MOST_HEIGHT : ZONES - 1;
        if (!isCrossing(c) || !isWithin(what, 0, 1) || !isWithin(v, 0, most)) {
            return finding(BEYOND);
        }
        return what == 0 ? world.town.putHeight(c, v) : world.town.putZone(c, v);
    }

    public int road(int a, int b, int minutes) {
        if (!isRoad(a, b, minutes)) {
            return finding(BEYOND);
        }
        return world.town.addRoad(a, b, minutes);
    }

    public int way(int a, int b) {
        if (!isCrossing(a) || !isCrossing(b)) {
            return finding(BEYOND);
        }
        int found = world.town.wayBetween(a, b);
        return found == NO_WAY ? finding(NONE) : found;
    }

    public int minutes(int n) {
        if (!isWithin(n, 1, LONGEST_WAIT)) {
            return finding(BEYOND);
        }
        if (world.now + n > LAST_MINUTE) {
            return finding(STATE);
        }
        world.now += n;
        return world.now;
    }

    // ---- kitchens, orders, riders

    public int kitchen(int at, int cook) {
        if (!isCrossing(at) || !isWithin(cook, 1, LONGEST_COOK)) {
            return finding(BEYOND);
        }
        if (world.kitchens.isFull()) {
            return finding(FULL);
        }
        return world.kitchens.add(at, cook, 0) - 1;
    }

    public int order(int kitchen, int to, int promised, int delay) {
        if (!isWithin(kitchen, 0, world.kitchens.size - 1) || !isCrossing(to)
                || !isWithin(promised, LEAST_PROMISED, MOST_PROMISED)
                || !isWithin(delay, 0, LONGEST_DELAY)) {
            return finding(BEYOND);
        }
        if (world.orderCount >= MOST_ORDERS) {
            return finding(FULL);
        }
        world.addOrder(kitchen, to, promised, delay);
        return world.orderCount - 1;
    }

    public int orderOf(int order, int what) {
        Order found = world.orderAt(order);
        if (found == null || !isWithin(what, 0, 10)) {
            return finding(BEYOND);
        }
        if (what >= 5 && found.state != GIVEN) {
            return finding(NONE);
        }
        switch (what) {
            case 0: return found.kitchen;
            case 1: return found.to;
            case 2: return found.placed;
            case 3: return found.ready;
            case 4: return found.state;
            case 5: return found.rider;
            case 6: return found.pick;
            case 7: return found.drop;
            case 8: return found.late;
            case 9: return world.payFor(found);
            default: return found.rating;
        }
    }

    public int callOff(int order) {
        Order found = world.orderAt(order);
        if (found == null) {
            return finding(BEYOND);
        }
        if (found.state != WAITING) {
            return finding(STATE);
        }
        found.state = CALLED_OFF;
        return 1;
    }

    public int rider(int kind, int at) {
        if (!isWithin(kind, 0, KINDS - 1) || !isCrossing(at)) {
            return finding(BEYOND);
        }
        if (world.riderCount >= MOST_RIDERS) {
            return finding(FULL);
        }
        world.addRider(kind, at);
        return world.riderCount - 1;
    }

    public int riderOf(int rider, int what) {
        Rider found = world.riderAt(rider);
        if (found == null || !isWithin(what, 0, 7)) {
            return finding(BEYOND);
        }
        switch (what) {
            case 0: return found.kind;
            case 1: return found.at;
            case 2: return found.free;
            case 3: return found.given;
            case 4: return world.engagedOf(rider);
            case 5: return world.payOfRider(rider);
            case 6: return world.ratingOfRider(rider);
            default: return found.refused;
        }
    }

    public int goes(int rider, int a, int b) {
        Rider found = world.riderAt(rider);
        if (found == null || !isCrossing(a) || !isCrossing(b)) {
            return finding(BEYOND);
        }
        int leg = legFor(found.kind, world.town.wayBetween(a, b));
        return leg == NO_WAY ? finding(NONE) : leg;
    }

    // ---- trips

    public int trip(int rider, int order, int what) {
        Rider goer = world.riderAt(rider);
        Order found = world.orderAt(order);
        if (goer == null || found == null || !isWithin(what, 0, 2)) {
            return finding(BEYOND);
        }
        if (found.state != WAITING) {
            return finding(STATE);
        }
        if (!plan.planOne(goer.kind, goer.at, goer.startFrom(world.now), found)) {
            return finding(NONE);
        }
        switch (what) {
            case 0: return plan.times[PICK_ONE];
            case 1: return plan.times[DROP_ONE];
            default: return plan.late;
        }
    }

    public int join(int rider, int one, int other, int what) {
        int hindered = isWithin(what, 0, 4) ? planJoined(rider, one, other) : BEYOND;
        if (hindered != 0) {
            return finding(hindered);
        }
        switch (what) {
            case 0: return plan.line;
            case 1: return plan.late;
            case 2: return plan.end;
            case 3: return plan.times[DROP_ONE];
            default: return plan.times[DROP_OTHER];
        }
    }

    public int give(int rider, int order) {
        Rider goer = world.riderAt(rider);
        Order found = world.orderAt(order);
        if (goer == null || found == null) {
            return finding(BEYOND);
        }
        if (found.state != WAITING) {
            return finding(STATE);
        }
        if (!plan.planOne(goer.kind, goer.at, goer.startFrom(world.now), found)) {
            return finding(NONE);
        }
        handOver(rider, found);
        return found.drop;
    }

    public int giveTwo(int rider, int one, int other) {
        int hindered = planJoined(rider, one, other);
        if (hindered != 0) {
            return finding(hindered);
        }
        handOverTwo(rider, one, other);
        return plan.end;
    }

    // ---- texts

    public int feed(int bytes, int n) {
        if (!isWithin(n, 1, 4)) {
            return finding(BEYOND);
        }
        if (tape.length + n > TAPE_BYTES) {
            return finding(FULL);
        }
        for (int i = n - 1; i >= 0; i--) {
            tape.addByte((bytes >>> (8 * i)) & 255);
        }
        return tape.length;
    }

    public int wipe() {
        int had = tape.length;
        tape.length = 0;
        return had;
    }

    public int text() {
        if (world.textCount >= MOST_TEXTS) {
            return finding(FULL);
        }
        int fault = tape.readAll();
        tape.length = 0;
        if (fault != NO_FAULT) {
            return -1 - fault;
        }
        world.addText(new Text(Arrays.copyOf(tape.steps, tape.stepCount)));
        return world.textCount - 1;
    }

    public int force(int use, int text) {
        if (!isWithin(use, 0, 1) || !isWithin(text, NO_TEXT, world.textCount - 1)) {
            return finding(BEYOND);
        }
        int was = use == 0 ? world.rule : world.pay;
        if (use == 0) {
            world.rule = text;
        } else {
            world.pay = text;
        }
        return was;
    }

    public int says(int text, int rider, int order) {
        Text asked = world.textAt(text);
        Rider goer = world.riderAt(rider);
        Order found = world.orderAt(order);
        if (asked == null || goer == null || found == null) {
            return finding(BEYOND);
        }
        world.nameRider(names, rider, found);
        if (found.state == GIVEN) {
            names.putTimes(found.pick - found.placed, found.late);
        } else {
            boolean stands = plan.planOne(goer.kind, goer.at, goer.startFrom(world.now), found);
            names.putTimes(world.now - found.placed, stands ? plan.late : 0);
        }
        return names.worthOf(asked);
    }

    // ---- offers

    public int offered(int order) {
        Order found = world.orderAt(order);
        if (found == null) {
            return finding(BEYOND);
        }
        Text rule = world.textAt(world.rule);
        if (found.state != WAITING || rule == null) {
            return finding(STATE);
        }
        int best = bestFor(order, rule);
        return best == NOBODY ? finding(NONE) : best;
    }

    public int refuse(int rider, int order) {
        Rider refuser = world.riderAt(rider);
        Order found = world.orderAt(order);
        if (refuser == null || found == null) {
            return finding(BEYOND);
        }
        if (found.state != WAITING || found.isRefusedBy(rider)) {
            return finding(STATE);
        }
        found.refusedBy |= 1 << rider;
        refuser.refused++;
        return refuser.refused;
    }

    public int offerAll() {
        Text rule = world.textAt(world.rule);
        if (rule == null) {
            return finding(STATE);
        }
        int handed = 0;
        for (int o = 0; o < world.orderCount; o++) {
            Order order = world.orders[o];
            Rider best = order.state == WAITING ? world.riderAt(bestFor(o, rule)) : null;
            if (best != null
                    && plan.planOne(best.kind, best.at, best.startFrom(world.now), order)) {
                handOver(best.number, order);
                handed++;
            }
        }
        return handed;
    }

    // ---- pay, the law

    public int rain(int from, int to, int hundredths) {
        if (!isMinute(from) || !isMinute(to) || to < from
                || !isWithin(hundredths, 1, MOST_HUNDREDTHS)) {
            return finding(BEYOND);
        }
        if (world.rains.isFull()) {
            return finding(FULL);
        }
        return world.rains.add(from, to, hundredths);
    }

    public int law(int v) {
        if (!isWithin(v, 0, MOST_LAW)) {
            return finding(BEYOND);
        }
        int was = world.law;
        world.law = v;
        return was;
    }

    public int app(int rider, int from, int to) {
        Rider found = world.riderAt(rider);
        if (found == null || !isMinute(from) || !isMinute(to) || to <= from) {
            return finding(BEYOND);
        }
        if (found.apps.isFull()) {
            return finding(FULL);
        }
        return found.apps.add(from, to, 0);
    }

    public int least(int rider, int what) {
        Rider found = world.riderAt(rider);
        if (found == null || !isWithin(what, 0, 1)) {
            return finding(BEYOND);
        }
        int counting = world.countingOf(found);
        if (what == 0) {
            return counting;
        }
        int due = (world.law * counting + 59) / 60;
        return Math.max(0, due - world.payOfRider(rider));
    }

    // ---- ratings, bans

    public int lacks(int order, int part) {
        Order found = world.orderAt(order);
        if (found == null || !isWithin(part, BY_COOK, BY_RIDER)) {
            return finding(BEYOND);
        }
        return found.state == GIVEN ? found.lackBy(part) : finding(NONE);
    }

    public int ban(int rider, int limit, int orders) {
        Rider found = world.riderAt(rider);
        if (found == null || !isWithin(limit, 0, BEST_RATING)
                || !isWithin(orders, 1, MOST_BAN_ORDERS)) {
            return finding(BEYOND);
        }
        return found.given >= orders && world.ownRatingOf(rider) < limit ? 1 : 0;
    }

    public int seen(int rider, int at, int minute) {
        if (world.riderAt(rider) == null || !isCrossing(at) || !isMinute(minute)) {
            return finding(BEYOND);
        }
        if (world.sightings.isFull()) {
            return finding(FULL);
        }
        return world.sightings.add(rider, at, minute);
    }

    public int doubles(int rider, int what) {
        if (world.riderAt(rider) == null || !isWithin(what, 0, 2)) {
            return finding(BEYOND);
        }
        int found = 0;
        for (int i = 0; i < world.sightings.size; i++) {
            for (int j = i + 1; j < world.sightings.size; j++) {
                if (!world.isDouble(rider, i, j)) {
                    continue;
                }
                if (what > 0) {
                    return what == 1 ? i : j;
                }
                found++;
            }
        }
        return what > 0 ? finding(NONE) : found;
    }

    // ---- zones, nights

    public int zone(int zone, int what) {
        if (!isWithin(zone, 0, ZONES - 1) || !isWithin(what, 0, 3)) {
            return finding(BEYOND);
        }
        int asked = what == 0 ? WAITING : GIVEN;
        int sum = 0;
        for (int o = 0; o < world.orderCount; o++) {
            Order order = world.orders[o];
            if (order.state != asked || world.town.zones[order.to] != zone) {
                continue;
            }
            switch (what) {
                case 2: sum += order.late; break;
                case 3: sum += world.payFor(order); break;
                default: sum++; break;
            }
        }
        return sum;
    }

    public int starves(int n) {
        if (!isMinute(n)) {
            return finding(BEYOND);
        }
        int starving = -1;
        int most = 0;
        for (int zone = 0; zone < ZONES; zone++) {
            int waiting = world.waitingIn(zone, n);
            if (waiting > most) {
                most = waiting;
                starving = zone;
            }
        }
        return starving < 0 ? finding(NONE) : starving;
    }

    public int night(int text, int what) {
        Text asked = world.textAt(text);
        if (asked == null || !isWithin(what, 0, 4)) {
            return finding(BEYOND);
        }
        nightPlan.passBy(asked);
        switch (what) {
            case 0: return nightPlan.handed;
            case 1: return nightPlan.late;
            case 2: return nightPlan.mostGiven();
            case 3: return nightPlan.fewestGiven();
            default: return nightPlan.lastEnd;
        }
    }

    public int whom(int text, int order) {
        Text asked = world.textAt(text);
        if (asked == null || world.orderAt(order) == null) {
            return finding(BEYOND);
        }
        nightPlan.passBy(asked);
        int taker = nightPlan.takers[order];
        return taker == NOBODY ? finding(NONE) : taker;
    }

    // ---- spots, sheets

    public int hold(int spot, int rider) {
        if (!isWithin(spot, 0, SPOTS - 1) || !isWithin(rider, NOBODY, world.riderCount - 1)) {
            return finding(BEYOND);
        }
        world.spots[spot] = rider;
        return 1;
    }

    public int as(int spot, int kind) {
        if (!isWithin(spot, 0, SPOTS - 1) || !isWithin(kind, 0, KINDS - 1)) {
            return finding(BEYOND);
        }
        Rider held = world.riderAt(world.spots[spot]);
        if (held == null) {
            return finding(MISSING);
        }
        return isOfKind(held.kind, kind) ? held.number : finding(KIND);
    }

    public int sheet(int s, int bits, int n) {
        Sheet found = sheetAt(s);
        if (found == null || (bits != 0 && bits != 8 && bits != 16 && bits != 32)) {
            return finding(BEYOND);
        }
        if (n < 0) {
            return finding(SIZE);
        }
        if (n > SHEET_NUMBERS) {
            return finding(BEYOND);
        }
        found.begin(bits, n);
        return found.size;
    }

    public int write(int s, int i, int v) {
        Sheet found = sheetAt(s);
        if (found == null) {
            return finding(BEYOND);
        }
        if (found.isMissing()) {
            return finding(MISSING);
        }
        if (!isWithin(i, 0, found.size - 1)) {
            return finding(BEYOND);
        }
        found.put(i, v);
        return 1;
    }

    public int copy(int s, int from, int t, int to, int n) {
        Sheet source = sheetAt(s);
        Sheet target = sheetAt(t);
        if (source == null || target == null) {
            return finding(BEYOND);
        }
        if (source.isMissing() || target.isMissing()) {
            return finding(MISSING);
        }
        if (source.bits != target.bits) {
            return finding(KIND);
        }
        if (!source.hasRun(from, n) || !target.hasRun(to, n)) {
            return finding(BEYOND);
        }
        System.arraycopy(source.numbers, from, target.numbers, to, n);
        return n;
    }

    public int roads(int s) {
        Sheet found = sheetAt(s);
        if (found == null) {
            return finding(BEYOND);
        }
        if (found.isMissing()) {
            return finding(MISSING);
        }
        int came = 0;
        for (int i = 0; i + 2 < found.size; i += 3) {
            int a = found.numbers[i];
            int b = found.numbers[i + 1];
            int minutes = found.numbers[i + 2];
            if (!isRoad(a, b, minutes)) {
                break;
            }
            world.town.addRoad(a, b, minutes);
            came++;
        }
        return came;
    }

    public int judge(int s, int text) {
        Sheet found = sheetAt(s);
        if (found == null) {
            return finding(BEYOND);
        }
        if (found.isMissing()) {
            return finding(MISSING);
        }
        Text asked = world.textAt(text);
        if (asked == null) {
            return finding(BEYOND);
        }
        nightPlan.passBy(asked);
        int both = Math.min(found.size, world.orderCount);
        int right = 0;
        while (right < both && found.numbers[right] == nightPlan.takers[right]) {
            right++;
        }
        return right == found.size && right == world.orderCount ? 0 : right + 1;
    }

    // ---- images

    public int image() {
        kept.becomeLike(world);
        isKept = true;
        return 1;
    }

    public int undo() {
        if (!isKept) {
            return finding(NONE);
        }
        world.becomeLike(kept);
        return world.now;
    }

    public int tear() {
        int was = isKept ? 1 : 0;
        isKept = false;
        return was;
    }

    public int count(int what) {
        switch (what) {
            case 0: return world.now;
            case 1: return world.kitchens.size;
            case 2: return world.orderCount;
            case 3: return world.waitingOrders();
            case 4: return world.riderCount;
            case 5: return world.textCount;
            case 6: return tape.length;
            default: return finding(BEYOND);
        }
    }

    public int status(int which) {
        if (!isWithin(which, -1, FINDINGS - 1)) {
            return finding(BEYOND);
        }
        if (which >= 0) {
            return findings[which];
        }
        int sum = 0;
        for (int f = 0; f < FINDINGS; f++) {
            sum += findings[f];
        }
        return sum;
    }

    // ---- what the calls share

    private int finding(int found) {
        int place = LOW - found;
        if (isWithin(place, 0, FINDINGS - 1)) {
            findings[place]++;
        }
        return found;
    }

    private Sheet sheetAt(int s) {
        return isWithin(s, 0, SHEETS - 1) ? sheets[s] : null;
    }

    /** Plans the TRIP of a RIDER with two ORDERS: 0, or the finding that hinders it. */
    private int planJoined(int rider, int one, int other) {
        Rider goer = world.riderAt(rider);
        Order first = world.orderAt(one);
        Order second = world.orderAt(other);
        if (goer == null || first == null || second == null || one == other) {
            return BEYOND;
        }
        if (first.state != WAITING || second.state != WAITING) {
            return STATE;
        }
        plan.setOut(goer.kind, goer.at, goer.startFrom(world.now));
        return plan.planTwo(first, second) ? 0 : NONE;
    }

    /** The RIDER to whom a waiting ORDER is OFFERED by a rule, or NOBODY. */
    private int bestFor(int o, Text rule) {
        Order order = world.orders[o];
        int best = NOBODY;
        int most = 0;
        for (int r = 0; r < world.riderCount; r++) {
            Rider rider = world.riders[r];
            if (rider.free > world.now || order.isRefusedBy(r)
                    || !plan.planOne(rider.kind, rider.at, world.now, order)) {
                continue;
            }
            world.nameRider(names, r, order);
            names.putTimes(world.now - order.placed, plan.late);
            int worth = names.worthOf(rule);
            if (best == NOBODY || worth > most) {
                best = r;
                most = worth;
            }
        }
        return best;
    }

    /** What THE PAY gives for an ORDER with these MINUTES, the RIDER being as it is ahead of it. */
    private int wageFor(int rider, Order order, int pick, int drop) {
        Text pay = world.textAt(world.pay);
        if (pay == null) {
            return 0;
        }
        world.nameRider(names, rider, order);
        names.putTimes(pick - order.placed, order.lateAt(drop));
        return Math.max(0, Math.min(MOST_PAY, names.worthOf(pay)));
    }

    /** The ORDER is GIVEN by the TRIP that was planned for it just now. */
    private void handOver(int rider, Order order) {
        int pick = plan.times[PICK_ONE];
        int drop = plan.times[DROP_ONE];
        int wage = wageFor(rider, order, pick, drop);
        order.becomeGiven(rider, pick, drop, wage);
        world.engage(rider, plan, 1);
    }

    /** Both wages are told ahead of both gifts, as the NAMES are those of the RIDER ahead of it. */
    private void handOverTwo(int rider, int one, int other) {
        Order first = world.orders[one];
        Order second = world.orders[other];
        int[] times = plan.times;
        int wageOne = wageFor(rider, first, times[PICK_ONE], times[DROP_ONE]);
        int wageOther = wageFor(rider, second, times[PICK_OTHER], times[DROP_OTHER]);
        first.becomeGiven(rider, times[PICK_ONE], times[DROP_ONE], wageOne);
        second.becomeGiven(rider, times[PICK_OTHER], times[DROP_OTHER], wageOther);
        world.engage(rider, plan, 2);
    }

    private static boolean isWithin(int v, int least, int most) {
        return v >= least && v <= most;
    }

    private static boolean isCrossing(int c) {
        return isWithin(c, 0, CROSSINGS - 1);
    }

    private static boolean isMinute(int minute) {
        return isWithin(minute, 0, LAST_MINUTE);
    }

    private static boolean isRoad(int a, int b, int minutes) {
        return isCrossing(a) && isCrossing(b) && a != b && isWithin(minutes, 1, LONGEST_ROAD);
    }

    /** Whether a kind is the asked one, or stands under it. */
    private static boolean isOfKind(int kind, int asked) {
        int k = kind;
        for (int step = 0; step < KINDS && isWithin(k, 0, KINDS - 1); step++) {
            if (k == asked) {
                return true;
            }
            k = UNDER[k];
        }
        return false;
    }

    /** How many MINUTES one of a kind GOES for a WAY; NO_WAY without one. */
    private static int legFor(int kind, int way) {
        if (way == NO_WAY) {
            return NO_WAY;
        }
        int byBike = (3 * way + 3) / 4;
        switch (kind) {
            case BIKE: return byBike;
            case CAR: return (way + 1) / 2 + 3;
            case WALKER: return 2 * way;
            case MOTOR: return way == 0 ? 0 : Math.max(1, byBike - 1);
            case NEWCOMER: return way == 0 ? 0 : 2 * way + 2;
            default: return way;
        }
    }

    /** Rows of three numbers, at most so many; what needs but two leaves the third at 0. */
    private static final class Rows {
        final int[] cells;
        int size;

        Rows(int most) {
            cells = new int[3 * most];
        }

        boolean isFull() {
            return 3 * size + 2 >= cells.length;
        }

        /** Adds a row behind the others, if there is room: how many there are. */
        int add(int first, int second, int third) {
            if (!isFull()) {
                cells[3 * size] = first;
                cells[3 * size + 1] = second;
                cells[3 * size + 2] = third;
                size++;
            }
            return size;
        }

        int cell(int row, int column) {
            int place = 3 * row + column;
            return isWithin(place, 0, cells.length - 1) ? cells[place] : 0;
        }

        /** Whether a MINUTE is from a row's begin on, and at its end at the latest. */
        boolean spans(int row, int minute) {
            return cell(row, SPAN_FROM) <= minute && minute <= cell(row, SPAN_TO);
        }

        void becomeLike(Rows other) {
            System.arraycopy(other.cells, 0, cells, 0, Math.min(cells.length, other.cells.length));
            size = other.size;
        }
    }

    /** CROSSINGS, ROADS, and the WAYS that follow from them. */
    private static final class Town {
        final int[] heights = new int[CROSSINGS];
        final int[] zones = new int[CROSSINGS];
        /** MINUTES of the ROAD from one CROSSING to another; 0 without one. */
        final int[] roadMinutes = new int[CROSSINGS * CROSSINGS];
        /** Kept up to date with each change, as asking is more frequent than building. */
        final int[] wayMinutes = new int[CROSSINGS * CROSSINGS];

        Town() {
            Arrays.fill(wayMinutes, NO_WAY);
            for (int c = 0; c < CROSSINGS; c++) {
                wayMinutes[c * CROSSINGS + c] = 0;
            }
        }

        int putHeight(int c, int height) {
            int was = heights[c];
            heights[c] = height;
            if (was != height) {
                measureWays();
            }
            return was;
        }

        int putZone(int c, int zone) {
            int was = zones[c];
            zones[c] = zone;
            return was;
        }

        int addRoad(int a, int b, int minutes) {
            int was = roadMinutes[a * CROSSINGS + b];
            if (was > 0 && was <= minutes) {
                return was;
            }
            roadMinutes[a * CROSSINGS + b] = minutes;
            roadMinutes[b * CROSSINGS + a] = minutes;
            measureWays();
            return minutes;
        }

        int wayBetween(int a, int b) {
            return wayMinutes[a * CROSSINGS + b];
        }

        private void measureWays() {
            for (int a = 0; a < CROSSINGS; a++) {
                for (int b = 0; b < CROSSINGS; b++) {
                    wayMinutes[a * CROSSINGS + b] = directWay(a, b);
                }
            }
            for (int middle = 0; middle < CROSSINGS; middle++) {
                for (int a = 0; a < CROSSINGS; a++) {
                    if (wayBetween(a, middle) != NO_WAY) {
                        shortenThrough(a, middle);
                    }
                }
            }
        }

        private int directWay(int a, int b) {
            if (a == b) {
                return 0;
            }
            int minutes = roadMinutes[a * CROSSINGS + b];
            return minutes == 0 ? NO_WAY : minutes + Math.max(0, heights[b] - heights[a]);
        }

        private void shortenThrough(int a, int middle) {
            int first = wayBetween(a, middle);
            for (int b = 0; b < CROSSINGS; b++) {
                int rest = wayBetween(middle, b);
                int known = wayBetween(a, b);
                if (rest != NO_WAY && (known == NO_WAY || first + rest < known)) {
                    wayMinutes[a * CROSSINGS + b] = first + rest;
                }
            }
        }

        void becomeLike(Town other) {
            System.arraycopy(other.heights, 0, heights, 0, CROSSINGS);
            System.arraycopy(other.zones, 0, zones, 0, CROSSINGS);
            System.arraycopy(other.roadMinutes, 0, roadMinutes, 0, CROSSINGS * CROSSINGS);
            System.arraycopy(other.wayMinutes, 0, wayMinutes, 0, CROSSINGS * CROSSINGS);
        }
    }

    /** An ORDER, and, once it is GIVEN, how. */
    private static final class Order {
        int kitchen;
        /** The CROSSING of its KITCHEN, which never moves. */
        int from;
        int to;
        int placed;
        int due;
        int delay;
        int ready;
        int state;
        int rider;
        int pick;
        int drop;
        int late;
        int rating;
        /** PAY ahead of any RAIN. */
        int wage;
        /** RIDERS who refused it, as bits. */
        int refusedBy;

        void becomeGiven(int toRider, int picked, int dropped, int paid) {
            state = GIVEN;
            rider = toRider;
            pick = picked;
            drop = dropped;
            wage = paid;
            late = lateAt(dropped);
            int lacking = lackBy(BY_COOK) + lackBy(BY_WAY) + lackBy(BY_RIDER);
            rating = Math.max(0, BEST_RATING - lacking);
        }

        boolean isGivenTo(int asked) {
            return state == GIVEN && rider == asked;
        }

        boolean isRefusedBy(int asked) {
            return (refusedBy >> asked & 1) != 0;
        }

        int lateAt(int dropped) {
            return Math.max(0, dropped - due);
        }

        int lackBy(int part) {
            int byCook = delay / 5;
            switch (part) {
                case BY_COOK: return byCook;
                case BY_WAY: return Math.max(0, late / 5 - byCook);
                default: return (pick - ready) / 4;
            }
        }

        /** Its rating as if the RIDER's part alone lacked. */
        int ownRating() {
            return Math.max(0, BEST_RATING - lackBy(BY_RIDER));
        }

        void becomeLike(Order other) {
            kitchen = other.kitchen;
            from = other.from;
            to = other.to;
            placed = other.placed;
            due = other.due;
            delay = other.delay;
            ready = other.ready;
            state = other.state;
            rider = other.rider;
            pick = other.pick;
            drop = other.drop;
            late = other.late;
            rating = other.rating;
            wage = other.wage;
            refusedBy = other.refusedBy;
        }
    }

    private static final class Rider {
        final int number;
        int kind;
        int cameTo;
        int cameOn;
        int at;
        int free;
        int given;
        int refused;
        final Rows apps = new Rows(MOST_APPS);

        Rider(int number) {
            this.number = number;
        }

        void comeOn(int asKind, int crossing, int minute) {
            kind = asKind;
            cameTo = crossing;
            cameOn = minute;
            at = crossing;
            free = minute;
            given = 0;
            refused = 0;
            apps.size = 0;
        }

        int startFrom(int now) {
            return Math.max(now, free);
        }

        boolean isInApp(int minute) {
            for (int a = 0; a < apps.size; a++) {
                if (apps.spans(a, minute) && minute != apps.cell(a, SPAN_TO)) {
                    return true;
                }
            }
            return false;
        }

        void becomeLike(Rider other) {
            kind = other.kind;
            cameTo = other.cameTo;
            cameOn = other.cameOn;
            at = other.at;
            free = other.free;
            given = other.given;
            refused = other.refused;
            apps.becomeLike(other.apps);
        }
    }

    /** All that an image keeps. */
    private static final class World {
        final Town town = new Town();
        final Rows kitchens = new Rows(MOST_KITCHENS);
        final Order[] orders = new Order[MOST_ORDERS];
        final Rider[] riders = new Rider[MOST_RIDERS];
        final Text[] texts = new Text[MOST_TEXTS];
        final Rows trips = new Rows(MOST_ORDERS);
        final Rows rains = new Rows(MOST_RAINS);
        final Rows sightings = new Rows(MOST_SIGHTINGS);
        final int[] spots = new int[SPOTS];
        int orderCount;
        int riderCount;
        int textCount;
        int now;
        int rule = NO_TEXT;
        int pay = NO_TEXT;
        int law;

        World() {
            for (int o = 0; o < MOST_ORDERS; o++) {
                orders[o] = new Order();
            }
            for (int r = 0; r < MOST_RIDERS; r++) {
                riders[r] = new Rider(r);
            }
            Arrays.fill(spots, NOBODY);
        }

        Order orderAt(int order) {
            return isWithin(order, 0, orderCount - 1) ? orders[order] : null;
        }

        Rider riderAt(int rider) {
            return isWithin(rider, 0, riderCount - 1) ? riders[rider] : null;
        }

        Text textAt(int text) {
            return isWithin(text, 0, textCount - 1) ? texts[text] : null;
        }

        void addOrder(int kitchen, int to, int promised, int delay) {
            Order order = orders[orderCount];
            order.kitchen = kitchen;
            order.from = kitchens.cell(kitchen, KITCHEN_AT);
            order.to = to;
            order.placed = now;
            order.due = now + promised;
            order.delay = delay;
            order.ready = now + kitchens.cell(kitchen, KITCHEN_COOK) + delay;
            order.state = WAITING;
            order.refusedBy = 0;
            orderCount++;
        }

        void addRider(int kind, int at) {
            riders[riderCount].comeOn(kind, at, now);
            riderCount++;
        }

        void addText(Text text) {
            texts[textCount] = text;
            textCount++;
        }

        /** The NAMES that tell of the RIDER as it is now; w and l are put by the caller. */
        void nameRider(Names names, int rider, Order order) {
            Rider goer = riders[rider];
            names.putWays(town, goer.kind, goer.at, order);
            names.putRider(rider, goer.given, ratingOfRider(rider));
        }

        void engage(int rider, Trip trip, int ordersGiven) {
            Rider goer = riders[rider];
            trips.add(rider, trip.begin, trip.end);
            goer.at = trip.endsAt;
            goer.free = trip.end;
            goer.given += ordersGiven;
        }

        int payFor(Order order) {
            int more = 0;
            for (int r = 0; r < rains.size; r++) {
                if (rains.spans(r, order.pick)) {
                    more += rains.cell(r, RAIN_HUNDREDTHS);
                }
            }
            return order.wage + order.wage * more / 100;
        }

        int payOfRider(int rider) {
            int sum = 0;
            for (int o = 0; o < orderCount; o++) {
                if (orders[o].isGivenTo(rider)) {
                    sum += payFor(orders[o]);
                }
            }
            return sum;
        }

        int ratingOfRider(int rider) {
            int sum = 0;
            int rated = 0;
            for (int o = 0; o < orderCount; o++) {
                if (orders[o].isGivenTo(rider)) {
                    sum += orders[o].rating;
                    rated++;
                }
            }
            return rated == 0 ? FIRST_RATING : sum / rated;
        }

        /** The mean by which a BAN is proved; the best one without ORDERS, as nothing lacks. */
        int ownRatingOf(int rider) {
            int sum = 0;
            int rated = 0;
            for (int o = 0; o < orderCount; o++) {
                if (orders[o].isGivenTo(rider)) {
                    sum += orders[o].ownRating();
                    rated++;
                }
            }
            return rated == 0 ? BEST_RATING : sum / rated;
        }

        int engagedOf(int rider) {
            int sum = 0;
            for (int t = 0; t < trips.size; t++) {
                if (trips.cell(t, TRIP_RIDER) == rider) {
                    sum += trips.cell(t, TRIP_END) - trips.cell(t, TRIP_BEGIN);
                }
            }
            return sum;
        }

        /** MINUTES ENGAGED that count: those within an OTHER APP half, all of them together. */
        int countingOf(Rider rider) {
            int shared = 0;
            for (int t = 0; t < trips.size; t++) {
                if (trips.cell(t, TRIP_RIDER) != rider.number) {
                    continue;
                }
                int end = trips.cell(t, TRIP_END);
                for (int minute = trips.cell(t, TRIP_BEGIN); minute < end; minute++) {
                    if (rider.isInApp(minute)) {
                        shared++;
                    }
                }
            }
            return engagedOf(rider.number) - shared + shared / 2;
        }

        /** Whether two SIGHTINGS, i told ahead of j, are DOUBLE ones of a RIDER. */
        boolean isDouble(int rider, int i, int j) {
            if (sightings.cell(i, SEEN_RIDER) != rider || sightings.cell(j, SEEN_RIDER) != rider) {
                return false;
            }
            int between = sightings.cell(j, SEEN_MINUTE) - sightings.cell(i, SEEN_MINUTE);
            int early = between < 0 ? j : i;
            int later = between < 0 ? i : j;
            int way = town.wayBetween(
                    sightings.cell(early, SEEN_AT), sightings.cell(later, SEEN_AT));
            return way == NO_WAY || way > Math.abs(between);
        }

        int waitingOrders() {
            int sum = 0;
            for (int o = 0; o < orderCount; o++) {
                if (orders[o].state == WAITING) {
                    sum++;
                }
            }
            return sum;
        }

        /** How many ORDERS to a ZONE wait that are placed for more than n MINUTES. */
        int waitingIn(int zone, int n) {
            int sum = 0;
            for (int o = 0; o < orderCount; o++) {
                Order order = orders[o];
                if (order.state == WAITING && town.zones[order.to] == zone
                        && now - order.placed > n) {
                    sum++;
                }
            }
            return sum;
        }

        void becomeLike(World other) {
            town.becomeLike(other.town);
            kitchens.becomeLike(other.kitchens);
            for (int o = 0; o < MOST_ORDERS; o++) {
                orders[o].becomeLike(other.orders[o]);
            }
            for (int r = 0; r < MOST_RIDERS; r++) {
                riders[r].becomeLike(other.riders[r]);
            }
            // TEXTS never change once they are made, so both may hold the same ones
            for (int t = 0; t < MOST_TEXTS; t++) {
                texts[t] = other.texts[t];
            }
            trips.becomeLike(other.trips);
            rains.becomeLike(other.rains);
            sightings.becomeLike(other.sightings);
            System.arraycopy(other.spots, 0, spots, 0, SPOTS);
            orderCount = other.orderCount;
            riderCount = other.riderCount;
            textCount = other.textCount;
            now = other.now;
            rule = other.rule;
            pay = other.pay;
            law = other.law;
        }
    }

    /** A TRIP as it would be; planned anew again and again, so that no call has to make one. */
    private static final class Trip {
        final Town town;
        /** MINUTES of the stops, by PICK_ONE to DROP_OTHER. */
        final int[] times = new int[STOPS];
        private final int[] tried = new int[STOPS];
        private int kind;
        private int from;
        private boolean stands;
        int begin;
        int end;
        int endsAt;
        int line;
        int late;

        Trip(Town town) {
            this.town = town;
        }

        void setOut(int asKind, int crossing, int minute) {
            kind = asKind;
            from = crossing;
            begin = minute;
            stands = false;
        }

        /** Whether there is a TRIP with one ORDER. */
        boolean planOne(int asKind, int crossing, int minute, Order order) {
            setOut(asKind, crossing, minute);
            if (follow(0, 2, order, order) != NO_END) {
                takeTried(0, tried[DROP_ONE], order.lateAt(tried[DROP_ONE]), order.to);
            }
            return stands;
        }

        /** Whether there is a TRIP with two ORDERS, after setOut. */
        boolean planTwo(Order one, Order other) {
            for (int l = 0; l < LINES; l++) {
                int ends = follow(l, STOPS, one, other);
                int both = one.lateAt(tried[DROP_ONE]) + other.lateAt(tried[DROP_OTHER]);
                boolean better = !stands || both < late || (both == late && ends < end);
                if (ends != NO_END && better) {
                    boolean endsWithOne = LINE_STOPS[l * STOPS + STOPS - 1] == DROP_ONE;
                    takeTried(l, ends, both, endsWithOne ? one.to : other.to);
                }
            }
            return stands;
        }

        private void takeTried(int byLine, int ends, int lateTogether, int crossing) {
            stands = true;
            line = byLine;
            end = ends;
            late = lateTogether;
            endsAt = crossing;
            System.arraycopy(tried, 0, times, 0, STOPS);
        }

        /** Goes along the first stops of a line: the MINUTE at which it ends, or NO_END. */
        private int follow(int byLine, int stops, Order one, Order other) {
            int minute = begin;
            int at = from;
            for (int i = 0; i < stops; i++) {
                int stop = LINE_STOPS[byLine * STOPS + i];
                boolean picks = stop == PICK_ONE || stop == PICK_OTHER;
                Order order = stop <= DROP_ONE ? one : other;
                int next = picks ? order.from : order.to;
                int leg = legFor(kind, town.wayBetween(at, next));
                if (leg == NO_WAY) {
                    return NO_END;
                }
                minute += leg;
                if (picks) {
                    minute = Math.max(minute, order.ready);
                }
                tried[stop] = minute;
                at = next;
            }
            return minute > LAST_MINUTE ? NO_END : minute;
        }
    }

    /** What a TEXT says, as steps in the order in which they are done. */
    private static final class Text {
        final int[] steps;

        Text(int[] steps) {
            this.steps = steps;
        }
    }

    /** What the NAMES of a TEXT stand for, and what the TEXT gives then. */
    private static final class Names {
        private final int[] values = new int[NAMES];
        private final int[] stack = new int[TAPE_BYTES];

        void putWays(Town town, int kind, int at, Order order) {
            values[NAME_D] = Math.max(0, legFor(kind, town.wayBetween(at, order.from)));
            values[NAME_C] = Math.max(0, legFor(kind, town.wayBetween(order.from, order.to)));
        }

        void putRider(int number, int given, int rating) {
            values[NAME_N] = number;
            values[NAME_H] = given;
            values[NAME_R] = rating;
        }

        void putTimes(int placedFor, int late) {
            values[NAME_W] = placedFor;
            values[NAME_L] = late;
        }

        int worthOf(Text text) {
            int top = 0;
            for (int i = 0; i < text.steps.length; i++) {
                int step = text.steps[i];
                if (step < STEP_SIGN) {
                    if (top < stack.length) {
                        stack[top] = valueOf(step);
                        top++;
                    }
                } else if (step == STEP_NEGATE) {
                    if (top >= 1) {
                        stack[top - 1] = -stack[top - 1];
                    }
                } else if (top >= 2) {
                    top--;
                    stack[top - 1] = joined(step - STEP_SIGN, stack[top - 1], stack[top]);
                }
            }
            return stack[0];
        }

        private int valueOf(int step) {
            int name = step - STEP_NAME;
            return isWithin(name, 0, NAMES - 1) ? values[name] : step;
        }

        private static int joined(int sign, int left, int right) {
            switch (sign) {
                case '+': return left + right;
                case '-': return left - right;
                case '*': return left * right;
                case '/': return right == 0 ? 0 : left / right;
                case '<': return left < right ? 1 : 0;
                default: return left == right ? 1 : 0;
            }
        }
    }

    /** THE TAPE, and how it is read: each TOKEN is looked at once, from the first on. */
    private static final class Tape {
        final int[] bytes = new int[TAPE_BYTES];
        int length;
        /** The steps of the TEXT that was read last. */
        final int[] steps = new int[TAPE_BYTES];
        int stepCount;
        private int token;
        private int place;
        private int behind;
        private int value;

        void addByte(int b) {
            if (length < TAPE_BYTES) {
                bytes[length] = b;
                length++;
            }
        }

        /** Reads a TEXT from all of THE TAPE: its FAULT, or NO_FAULT. */
        int readAll() {
            stepCount = 0;
            behind = 0;
            advance();
            boolean whole = readText(0) && token == TOKEN_END;
            return whole ? NO_FAULT : place;
        }

        private boolean readText(int open) {
            if (!readSum(open)) {
                return false;
            }
            int sign = token;
            if (sign != '<' && sign != '=') {
                return true;
            }
            advance();
            return readSum(open) && putStep(STEP_SIGN + sign);
        }

        private boolean readSum(int open) {
            boolean fine = readTerm(open);
            for (int i = 0; i < TAPE_BYTES && fine && (token == '+' || token == '-'); i++) {
                int sign = token;
                advance();
                fine = readTerm(open) && putStep(STEP_SIGN + sign);
            }
            return fine;
        }

        private boolean readTerm(int open) {
            boolean fine = readOne(open);
            for (int i = 0; i < TAPE_BYTES && fine && (token == '*' || token == '/'); i++) {
                int sign = token;
                advance();
                fine = readOne(open) && putStep(STEP_SIGN + sign);
            }
            return fine;
        }

        private boolean readOne(int open) {
            int first = token;
            if (first == TOKEN_NUMBER || first == TOKEN_NAME) {
                putStep(value);
                advance();
                return true;
            }
            if ((first != '-' && first != '(') || open >= MOST_OPEN) {
                return false;
            }
            advance();
            if (first == '-') {
                return readOne(open + 1) && putStep(STEP_NEGATE);
            }
            if (!readText(open + 1) || token != ')') {
                return false;
            }
            advance();
            return true;
        }

        private boolean putStep(int step) {
            if (stepCount >= TAPE_BYTES) {
                return false;
            }
            steps[stepCount] = step;
            stepCount++;
            return true;
        }

        /** Takes up the next TOKEN. */
        private void advance() {
            while (behind < length && bytes[behind] == ' ') {
                behind++;
            }
            place = behind;
            if (behind >= length) {
                token = TOKEN_END;
                return;
            }
            int b = bytes[behind];
            if (b >= '0' && b <= '9') {
                takeNumber();
                return;
            }
            behind++;
            int name = NAME_LETTERS.indexOf((char) b);
            if (name >= 0) {
                token = TOKEN_NAME;
                value = STEP_NAME + name;
            } else {
                token = isSign(b) ? b : TOKEN_WRONG;
            }
        }

        private void takeNumber() {
            value = 0;
            while (behind < length && bytes[behind] >= '0' && bytes[behind] <= '9') {
                // held once it is above the most, as eighty digits would wrap
                if (value <= MOST_NUMBER) {
                    value = 10 * value + bytes[behind] - '0';
                }
                behind++;
            }
            token = value > MOST_NUMBER ? TOKEN_WRONG : TOKEN_NUMBER;
        }

        private static boolean isSign(int b) {
            return b == '+' || b == '-' || b == '*' || b == '/'
                    || b == '(' || b == ')' || b == '<' || b == '=';
        }
    }

    /** A NIGHT by a TEXT; its rows are used again by each one. */
    private static final class Night {
        final World world;
        final Trip trip;
        final Names names;
        private final int[] at = new int[MOST_RIDERS];
        private final int[] free = new int[MOST_RIDERS];
        private final int[] given = new int[MOST_RIDERS];
        /** To whom each ORDER is GIVEN, or NOBODY. */
        final int[] takers = new int[MOST_ORDERS];
        int handed;
        int late;
        int lastEnd;

        Night(World world, Trip trip, Names names) {
            this.world = world;
            this.trip = trip;
            this.names = names;
        }

        void passBy(Text text) {
            startAgain();
            // ORDERS bear numbers as they are placed and NOW never goes back without them, so
            // their numbers tell them by MINUTES, too
            for (int o = 0; o < world.orderCount; o++) {
                Order order = world.orders[o];
                int taker = order.state == CALLED_OFF ? NOBODY : bestTaker(order, text);
                takers[o] = taker;
                if (taker != NOBODY && planFor(taker, order)) {
                    handTo(taker);
                }
            }
        }

        private void startAgain() {
            for (int r = 0; r < world.riderCount; r++) {
                at[r] = world.riders[r].cameTo;
                free[r] = world.riders[r].cameOn;
                given[r] = 0;
            }
            handed = 0;
            late = 0;
            lastEnd = 0;
        }

        private int bestTaker(Order order, Text text) {
            int best = NOBODY;
            int most = 0;
            for (int r = 0; r < world.riderCount; r++) {
                if (world.riders[r].cameOn > order.placed || !planFor(r, order)) {
                    continue;
                }
                names.putWays(world.town, world.riders[r].kind, at[r], order);
                names.putRider(r, given[r], FIRST_RATING);
                names.putTimes(0, trip.late);
                int worth = names.worthOf(text);
                if (best == NOBODY || worth > most) {
                    best = r;
                    most = worth;
                }
            }
            return best;
        }

        private boolean planFor(int r, Order order) {
            int begin = Math.max(free[r], order.placed);
            return trip.planOne(world.riders[r].kind, at[r], begin, order);
        }

        private void handTo(int r) {
            at[r] = trip.endsAt;
            free[r] = trip.end;
            given[r]++;
            handed++;
            late += trip.late;
            lastEnd = Math.max(lastEnd, trip.end);
        }

        int mostGiven() {
            int most = 0;
            for (int r = 0; r < world.riderCount; r++) {
                most = Math.max(most, given[r]);
            }
            return most;
        }

        int fewestGiven() {
            int fewest = world.riderCount == 0 ? 0 : MOST_ORDERS;
            for (int r = 0; r < world.riderCount; r++) {
                fewest = Math.min(fewest, given[r]);
            }
            return fewest;
        }
    }

    /** A row of numbers of 8, 16 or 32 bits; of 0 bits if it is MISSING. */
    private static final class Sheet {
        final int[] numbers = new int[SHEET_NUMBERS];
        int bits;
        int size;

        boolean isMissing() {
            return bits == 0;
        }

        void begin(int ofBits, int n) {
            bits = ofBits;
            size = ofBits == 0 ? 0 : n;
            Arrays.fill(numbers, 0);
        }

        void put(int i, int v) {
            switch (bits) {
                case 8: numbers[i] = (byte) v; break;
                case 16: numbers[i] = (short) v; break;
                default: numbers[i] = v; break;
            }
        }

        boolean hasRun(int from, int n) {
            return from >= 0 && n >= 0 && n <= size && from <= size - n;
        }
    }
}
