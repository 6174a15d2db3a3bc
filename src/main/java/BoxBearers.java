import java.util.Arrays;
import java.util.NoSuchElementException;

/** Boxes that are carried from town to town by bearers, as ../shared/DOC.md promises it. */
public final class BoxBearers {
    public static final int NONE = -1;

    private static final int MOST_BYTES = 700;
    private static final int MOST_TOWNS = 8;
    private static final int MOST_ROADS = 14;
    private static final int MOST_BOXES = 6;
    private static final int MOST_STOPS = 6;
    private static final int MOST_BEARERS = 8;
    private static final int MOST_ACTS = 40;
    private static final int MOST_SEEN = 8;
    private static final int MOST_WEIGHT = 99;
    private static final int MOST_TIRED = 9;
    private static final int MOST_HEIGHT = 9;
    private static final int LAST_DAY = 999;
    private static final int FAR_DAYS = 40;
    private static final int LOOK_DAYS = 5;
    private static final int CREWS = 256;

    private final byte[] tape = new byte[MOST_BYTES];
    private int tapeLength = 0;
    private int faultPlace = NONE;
    private final int[] status = new int[3];
    private final Land land = new Land();
    private final Land draft = new Land();
    private final Reader reader = new Reader(tape, draft);
    private final State now = new State(land);
    private final State future = new State(land);
    private final Past past = new Past();
    private final Seen seen = new Seen();
    private boolean imageKept = false;
    private final State imageState = new State(land);
    private final Past imagePast = new Past();
    private final Seen imageSeen = new Seen();
    private final Sharing sharing = new Sharing(now);
    private final Scale scale = new Scale(now, future, seen);
    private final Draws draws = new Draws();
    private final int[] far = new int[MOST_TOWNS];

    public BoxBearers() {
    }

    public int feed(int a, int b, int c, int d, int e) {
        if (tapeLength + 20 > MOST_BYTES) {
            return NONE;
        }
        putBytes(a);
        putBytes(b);
        putBytes(c);
        putBytes(d);
        putBytes(e);
        return tapeLength;
    }

    public int land(int n) throws IllegalArgumentException {
        if (n < 0 || n > tapeLength) {
            throw new IllegalArgumentException("the tape has not so many bytes");
        }
        int found = reader.readText(n);
        faultPlace = reader.place;
        tapeLength = 0;
        if (found != 0) {
            status[0]++;
            return found;
        }
        land.copyFrom(draft);
        now.begin();
        past.many = 0;
        seen.many = 0;
        imageKept = false;
        return 0;
    }

    public int fault() {
        return faultPlace;
    }

    public int count(int what) throws NoSuchElementException {
        switch (what) {
            case 0: return land.towns;
            case 1: return land.roads;
            case 2: return land.boxes;
            case 3: return land.bearers;
            case 4: return now.day;
            case 5: return now.borneBits();
            case 6: return now.bitsUnder(NONE);
            case 7: return now.weightOfAll();
            case 8: return land.pairs();
            case 9: return past.many;
            case 10: return seen.many;
            case 11: return tapeLength;
            case 12: return status[0];
            case 13: return status[1];
            case 14: return status[2];
            default: throw new NoSuchElementException("no such count");
        }
    }

    public int box(int box, int what) throws NoSuchElementException {
        checkBox(box);
        switch (what) {
            case 0: return now.weight[box];
            case 1: return now.townOf(box);
            case 2: return now.bitsUnder(box);
            case 3: return land.leanOf(now.bitsUnder(box));
            case 4: return now.mightOfAll(now.bitsUnder(box)) - now.weight[box];
            case 5: return land.stops[box];
            case 6: return now.neededBits(box);
            default: throw new NoSuchElementException("no such thing of a box");
        }
    }

    public int bearer(int bearer, int what) throws NoSuchElementException {
        checkBearer(bearer);
        switch (what) {
            case 0: return land.strength[bearer];
            case 1: return land.height[bearer];
            case 2: return now.under[bearer];
            case 3: return now.tired[bearer];
            case 4: return now.mightOf(bearer);
            case 5: return now.loadOf(bearer);
            default: throw new NoSuchElementException("no such thing of a bearer");
        }
    }

    public int days(int many) {
        if (many < 1 || many > 20 || now.day + many > LAST_DAY) {
            return refuseAct(NONE);
        }
        past.keep(now);
        now.passDays(many);
        return now.day;
    }

    public int hand(int bearer, int box) throws NoSuchElementException {
        checkBearer(bearer);
        checkBox(box);
        int before = now.under[bearer];
        if (before == box) {
            return refuseAct(-2);
        }
        past.keep(now);
        now.under[bearer] = box;
        return before;
    }

    public int away(int bearer) throws NoSuchElementException {
        checkBearer(bearer);
        int before = now.under[bearer];
        if (before == NONE) {
            return refuseAct(NONE);
        }
        past.keep(now);
        now.under[bearer] = NONE;
        return before;
    }

    public boolean change(int bearer, int other) throws NoSuchElementException {
        checkBearer(bearer);
        checkBearer(other);
        int first = now.under[bearer];
        int second = now.under[other];
        if (first == second) {
            refuseAct(NONE);
            return false;
        }
        past.keep(now);
        now.under[bearer] = second;
        now.under[other] = first;
        return true;
    }

    public int slander(int box, int less) throws NoSuchElementException {
        checkBox(box);
        if (less < 1 || less > 30) {
            return refuseAct(NONE);
        }
        past.keep(now);
        now.addWeight(box, -less);
        return now.weight[box];
    }

    public int praise(int box, int more) throws NoSuchElementException {
        checkBox(box);
        if (more < 1 || more > 30) {
            return refuseAct(NONE);
        }
        past.keep(now);
        now.addWeight(box, more);
        return now.weight[box];
    }

    public int undo() {
        return past.takeBack(now) ? past.many : NONE;
    }

    public int then(int box, int days, int what) throws NoSuchElementException, IllegalArgumentException {
        checkBox(box);
        checkWhat(what, 3);
        checkRange(days, 0, FAR_DAYS);
        lookAhead(days);
        switch (what) {
            case 0: return future.weight[box];
            case 1: return future.townOf(box);
            case 2: return future.bitsUnder(box);
            default: return future.isBorne(box) ? 1 : 0;
        }
    }

    public int who(int bearer, int days, int what) throws NoSuchElementException, IllegalArgumentException {
        checkBearer(bearer);
        checkWhat(what, 1);
        checkRange(days, 0, FAR_DAYS);
        lookAhead(days);
        return what == 0 ? future.tired[bearer] : future.under[bearer];
    }

    public int fallen(int box) throws NoSuchElementException {
        checkBox(box);
        future.copyFrom(now);
        for (int day = 1; day <= FAR_DAYS; day++) {
            future.passDay();
            if (hasBit(future.fell, box)) {
                return day;
            }
        }
        return NONE;
    }

    public int rests(int box) throws NoSuchElementException {
        checkBox(box);
        return firstBorne(box, false);
    }

    public int meet(int box, int other) throws NoSuchElementException {
        checkBox(box);
        checkBox(other);
        if (box == other) {
            return NONE;
        }
        future.copyFrom(now);
        for (int day = 0; day <= FAR_DAYS; day++) {
            if (future.townOf(box) == future.townOf(other)) {
                return day;
            }
            future.passDay();
        }
        return NONE;
    }

    public int later(int days, int what) throws NoSuchElementException, IllegalArgumentException {
        checkWhat(what, 1);
        checkRange(days, 0, FAR_DAYS);
        int carried = lookAhead(days);
        return what == 0 ? future.heaviest() : carried;
    }

    public int calls(int town, int days) throws NoSuchElementException, IllegalArgumentException {
        checkTown(town);
        checkRange(days, 0, FAR_DAYS);
        future.copyFrom(now);
        int bits = future.bitsIn(town);
        for (int day = 1; day <= days; day++) {
            future.passDay();
            bits |= future.bitsIn(town);
        }
        return bits;
    }

    public int toBear(int i) throws NoSuchElementException {
        if (i != NONE) {
            checkBox(i);
        }
        sharing.workOut();
        return i == NONE ? sharing.fewestOfAll() : sharing.rowAt(i);
    }

    public int crew(int box) throws NoSuchElementException {
        checkBox(box);
        return now.bestCrew(box);
    }

    public int toSlander(int box) throws NoSuchElementException {
        checkBox(box);
        int might = now.mightOfAll(now.bitsUnder(box));
        return might < 1 ? NONE : Math.max(0, now.weight[box] - might);
    }

    public int toWait(int box) throws NoSuchElementException {
        checkBox(box);
        return firstBorne(box, true);
    }

    public int way(int town, int other, int what) throws NoSuchElementException {
        checkTown(town);
        checkTown(other);
        checkWhat(what, 2);
        land.measure(town, what, far);
        return far[other];
    }

    public int see(int box, int days, int weight) throws NoSuchElementException {
        checkBox(box);
        if (seen.many >= MOST_SEEN || days < 0 || days > 12 || weight < 1 || weight > MOST_WEIGHT) {
            status[2]++;
            return NONE;
        }
        seen.add(box, days, weight);
        return seen.many;
    }

    public void forget() {
        seen.many = 0;
    }

    public int weighed(int what) throws NoSuchElementException {
        checkWhat(what, 2);
        if (what == 2) {
            return scale.unmetBits() == 0 ? 1 : 0;
        }
        scale.tryAll();
        return what == 0 ? scale.many : scale.firstOne();
    }

    public int look(int what) throws NoSuchElementException {
        checkWhat(what, 1);
        scale.tryAll();
        scale.compareLater();
        return what == 0 ? scale.mostUnlike : scale.howUnlike;
    }

    public int rain(int box, int days, int tenths) throws NoSuchElementException, IllegalArgumentException {
        checkBox(box);
        checkRange(days, 1, 5);
        checkRange(tenths, 0, 10);
        int sum = 0;
        for (int weather = 0; weather < (1 << days); weather++) {
            sum += chanceBorne(box, days, tenths, weather);
        }
        return sum;
    }

    public int game(int bearer, int other, int what) throws NoSuchElementException, IllegalArgumentException {
        checkBearer(bearer);
        checkBearer(other);
        checkWhat(what, 1);
        if (bearer == other) {
            throw new IllegalArgumentException("both are one");
        }
        if (!land.hasBox(now.under[bearer]) || now.under[bearer] != now.under[other]) {
            return NONE;
        }
        int many = 0;
        int first = NONE;
        for (int couple = 0; couple < 4; couple++) {
            int mine = couple / 2;
            int others = couple % 2;
            if (coupleRests(bearer, other, mine, others)) {
                first = many == 0 ? 10 * mine + others : first;
                many++;
            }
        }
        return what == 0 ? many : first;
    }

    public int years(int seed, int n, int what) throws NoSuchElementException, IllegalArgumentException {
        checkWhat(what, 2);
        checkRange(n, 0, FAR_DAYS);
        future.copyFrom(now);
        draws.seed = seed;
        int falls = 0;
        for (int day = 0; day < n; day++) {
            drawAct();
            future.passDay();
            falls += Integer.bitCount(future.fell);
        }
        switch (what) {
            case 0: return falls;
            case 1: return future.weightOfAll();
            default: return Integer.bitCount(future.borneBits());
        }
    }

    public int idle(int what) throws NoSuchElementException {
        checkWhat(what, 1);
        int best = NONE;
        int most = NONE;
        for (int bearer = 0; bearer < land.bearers; bearer++) {
            int size = what == 0 ? now.mightOf(bearer) : land.height[bearer];
            if (now.under[bearer] == NONE && size > most) {
                best = bearer;
                most = size;
            }
        }
        return best;
    }

    public int nearest(int town) throws NoSuchElementException {
        checkTown(town);
        land.measure(town, 0, far);
        int best = NONE;
        int least = NONE;
        for (int box = 0; box < land.boxes; box++) {
            int place = now.townOf(box);
            int stairs = land.hasTown(place) ? far[place] : NONE;
            if (stairs != NONE && (best == NONE || stairs < least)) {
                best = box;
                least = stairs;
            }
        }
        return best;
    }

    public int ahead(int box, int town) throws NoSuchElementException {
        checkBox(box);
        checkTown(town);
        int place = now.place[box];
        for (int day = 0; day < land.stops[box]; day++) {
            if (land.townAt(box, place) == town) {
                return day;
            }
            place = land.nextPlace(box, place);
        }
        return NONE;
    }

    public int alone(int box) throws NoSuchElementException {
        checkBox(box);
        int bits = 0;
        for (int bearer = 0; bearer < land.bearers; bearer++) {
            if (now.isBorneBy(box, 1 << bearer)) {
                bits |= 1 << bearer;
            }
        }
        return bits;
    }

    public int weariest(int days) throws IllegalArgumentException {
        checkRange(days, 0, FAR_DAYS);
        lookAhead(days);
        int best = NONE;
        int most = NONE;
        for (int bearer = 0; bearer < land.bearers; bearer++) {
            if (future.tired[bearer] > most) {
                best = bearer;
                most = future.tired[bearer];
            }
        }
        return best;
    }

    public int onRoutes(int town) throws NoSuchElementException {
        checkTown(town);
        int bits = 0;
        for (int box = 0; box < land.boxes; box++) {
            for (int place = 0; place < land.stops[box]; place++) {
                if (land.townAt(box, place) == town) {
                    bits |= 1 << box;
                }
            }
        }
        return bits;
    }

    public int reach(int town) throws NoSuchElementException {
        checkTown(town);
        land.measure(town, 0, far);
        int bits = 0;
        for (int other = 0; other < land.towns; other++) {
            if (far[other] != NONE) {
                bits |= 1 << other;
            }
        }
        return bits;
    }

    public int total(int days) throws IllegalArgumentException {
        checkRange(days, 0, FAR_DAYS);
        lookAhead(days);
        return future.weightOfAll();
    }

    public void image() {
        imageState.copyFrom(now);
        imagePast.copyFrom(past);
        imageSeen.copyFrom(seen);
        imageKept = true;
    }

    public boolean restore() {
        if (!imageKept) {
            return false;
        }
        now.copyFrom(imageState);
        past.copyFrom(imagePast);
        seen.copyFrom(imageSeen);
        return true;
    }

    private void putBytes(int number) {
        for (int shift = 24; shift >= 0 && tapeLength < MOST_BYTES; shift -= 8) {
            tape[tapeLength] = (byte) (number >>> shift);
            tapeLength++;
        }
    }

    private int refuseAct(int answer) {
        status[1]++;
        return answer;
    }

    private void checkBox(int box) {
        if (!land.hasBox(box)) {
            throw new NoSuchElementException("no such box");
        }
    }

    private void checkBearer(int bearer) {
        if (bearer < 0 || bearer >= land.bearers) {
            throw new NoSuchElementException("no such bearer");
        }
    }

    private void checkTown(int town) {
        if (!land.hasTown(town)) {
            throw new NoSuchElementException("no such town");
        }
    }

    private static void checkWhat(int what, int most) {
        if (what < 0 || what > most) {
            throw new NoSuchElementException("no such what");
        }
    }

    private static void checkRange(int number, int least, int most) {
        if (number < least || number > most) {
            throw new IllegalArgumentException("a number that is too low or too high");
        }
    }

    private static boolean hasBit(int bits, int place) {
        return (bits >> place & 1) == 1;
    }

    private static int within(int number, int least, int most) {
        if (number < least) {
            return least;
        }
        return number > most ? most : number;
    }

    /** The future stands behind so many days then; how often a box was carried on in them. */
    private int lookAhead(int days) {
        future.copyFrom(now);
        return future.passDays(days);
    }

    private int firstBorne(int box, boolean wanted) {
        future.copyFrom(now);
        for (int day = 0; day <= FAR_DAYS; day++) {
            if (future.isBorne(box) == wanted) {
                return day;
            }
            future.passDay();
        }
        return NONE;
    }

    /** Weather has a bit for each day on which it rains. */
    private int chanceBorne(int box, int days, int tenths, int weather) {
        future.copyFrom(now);
        int chance = 1;
        for (int day = 0; day < days; day++) {
            boolean wet = hasBit(weather, day);
            chance *= wet ? tenths : 10 - tenths;
            if (wet) {
                future.getWet();
            }
            future.passDay();
        }
        return future.isBorne(box) ? chance : 0;
    }

    private boolean coupleRests(int bearer, int other, int mine, int others) {
        return gainOf(bearer, mine, other, others) >= gainOf(bearer, 1 - mine, other, others)
            && gainOf(other, others, bearer, mine) >= gainOf(other, 1 - others, bearer, mine);
    }

    /** A choice is 1, if the hand is taken away, else 0. */
    private int gainOf(int bearer, int choice, int other, int othersChoice) {
        int box = now.under[bearer];
        int left = now.bitsUnder(box) & ~(choice << bearer) & ~(othersChoice << other);
        int gain = now.isBorneBy(box, left) ? 4 : 0;
        return choice == 0 ? gain - now.tired[bearer] : gain;
    }

    private void drawAct() {
        int kind = draws.drawOf(6);
        if (land.boxes == 0 || land.bearers == 0 || kind > 3) {
            return;
        }
        if (kind > 1) {
            int box = draws.drawOf(land.boxes);
            int much = draws.drawOf(10) + 1;
            future.addWeight(box, kind == 2 ? -much : much);
            return;
        }
        int bearer = draws.drawOf(land.bearers);
        future.under[bearer] = kind == 0 ? draws.drawOf(land.boxes) : NONE;
    }

    /** What a text tells, and what no day changes. */
    private static final class Land {
        int towns = 4;
        int roads = 0;
        final int[] roadFrom = new int[MOST_ROADS];
        final int[] roadTo = new int[MOST_ROADS];
        final int[] stairs = new int[MOST_ROADS];
        int boxes = 0;
        final int[] weight = new int[MOST_BOXES];
        final int[] stops = new int[MOST_BOXES];
        final int[] routes = new int[MOST_BOXES * MOST_STOPS];
        int bearers = 0;
        final int[] strength = new int[MOST_BEARERS];
        final int[] height = new int[MOST_BEARERS];
        final int[] firstBox = new int[MOST_BEARERS];
        final Rule talk = new Rule();
        final Rule falls = new Rule();

        void empty() {
            towns = 4;
            roads = 0;
            boxes = 0;
            bearers = 0;
            talk.empty();
            falls.empty();
        }

        void copyFrom(Land other) {
            towns = other.towns;
            roads = other.roads;
            System.arraycopy(other.roadFrom, 0, roadFrom, 0, MOST_ROADS);
            System.arraycopy(other.roadTo, 0, roadTo, 0, MOST_ROADS);
            System.arraycopy(other.stairs, 0, stairs, 0, MOST_ROADS);
            boxes = other.boxes;
            System.arraycopy(other.weight, 0, weight, 0, MOST_BOXES);
            System.arraycopy(other.stops, 0, stops, 0, MOST_BOXES);
            System.arraycopy(other.routes, 0, routes, 0, MOST_BOXES * MOST_STOPS);
            bearers = other.bearers;
            System.arraycopy(other.strength, 0, strength, 0, MOST_BEARERS);
            System.arraycopy(other.height, 0, height, 0, MOST_BEARERS);
            System.arraycopy(other.firstBox, 0, firstBox, 0, MOST_BEARERS);
            talk.copyFrom(other.talk);
            falls.copyFrom(other.falls);
        }

        boolean hasTown(int town) {
            return town >= 0 && town < towns;
        }

        boolean hasBox(int box) {
            return box >= 0 && box < boxes;
        }

        void addRoad(int from, int to, int steps) {
            if (roads < MOST_ROADS) {
                roadFrom[roads] = from;
                roadTo[roads] = to;
                stairs[roads] = steps;
                roads++;
            }
        }

        boolean hasRoad(int from, int to) {
            for (int road = 0; road < roads; road++) {
                boolean there = roadFrom[road] == from && roadTo[road] == to;
                boolean back = roadFrom[road] == to && roadTo[road] == from;
                if (there || back) {
                    return true;
                }
            }
            return false;
        }

        void addStop(int box, int place, int town) {
            if (box < MOST_BOXES && place < MOST_STOPS) {
                routes[box * MOST_STOPS + place] = town;
                stops[box] = place + 1;
            }
        }

        int townAt(int box, int place) {
            int at = box * MOST_STOPS + place;
            return at >= 0 && at < routes.length ? routes[at] : 0;
        }

        int nextPlace(int box, int place) {
            return place + 1 < stops[box] ? place + 1 : 0;
        }

        int pairs() {
            int many = 0;
            for (int one = 0; one < bearers; one++) {
                for (int other = one + 1; other < bearers; other++) {
                    if (height[one] == height[other]) {
                        many++;
                    }
                }
            }
            return many;
        }

        int leanOf(int bits) {
            int tallest = 0;
            int shortest = MOST_HEIGHT;
            for (int bearer = 0; bearer < bearers; bearer++) {
                if (hasBit(bits, bearer)) {
                    tallest = Math.max(tallest, height[bearer]);
                    shortest = Math.min(shortest, height[bearer]);
                }
            }
            return Math.max(0, tallest - shortest);
        }

        /** How far all towns are from one, by stairs (what 0), roads (1), the steepest road (2); NONE without a way. */
        void measure(int from, int what, int[] far) {
            Arrays.fill(far, NONE);
            far[from] = 0;
            for (int round = 1; round < towns; round++) {
                for (int road = 0; road < roads; road++) {
                    goAlong(road, roadFrom[road], roadTo[road], what, far);
                    goAlong(road, roadTo[road], roadFrom[road], what, far);
                }
            }
        }

        private void goAlong(int road, int from, int to, int what, int[] far) {
            if (!hasTown(from) || !hasTown(to) || far[from] == NONE) {
                return;
            }
            int length = far[from] + (what == 0 ? stairs[road] : 1);
            if (what == 2) {
                length = Math.max(far[from], stairs[road]);
            }
            if (far[to] == NONE || length < far[to]) {
                far[to] = length;
            }
        }
    }

    /** A rule as a row of steps, each behind those whose numbers it takes; a step from 0 on is a number itself. */
    private static final class Rule {
        static final int VALUES = 7;
        static final int WEIGHT = -1;
        static final int HANDS = -2;
        static final int MIGHT = -3;
        static final int LEAN = -4;
        static final int BORNE = -5;
        static final int TOWN = -6;
        static final int DAY = -7;
        static final int NOT = -8;
        static final int OR = -9;
        static final int AND = -10;
        static final int LESS = -11;
        static final int LIKE = -12;
        static final int PLUS = -13;
        static final int MINUS = -14;
        static final int TIMES = -15;
        static final int OVER = -16;
        // Six expressions within one another leave at most five numbers waiting each.
        private static final int MOST_WAITING = 48;

        boolean told = false;
        private int many = 0;
        private final int[] steps = new int[MOST_BYTES];
        private final int[] waiting = new int[MOST_WAITING];

        void empty() {
            told = false;
            many = 0;
        }

        void copyFrom(Rule other) {
            told = other.told;
            many = other.many;
            System.arraycopy(other.steps, 0, steps, 0, MOST_BYTES);
        }

        void add(int step) {
            if (many < MOST_BYTES) {
                steps[many] = step;
                many++;
            }
        }

        int workOut(int[] values) {
            int top = 0;
            for (int i = 0; i < many; i++) {
                int step = steps[i];
                if (step > NOT) {
                    if (top < MOST_WAITING) {
                        waiting[top] = step >= 0 ? step : values[WEIGHT - step];
                        top++;
                    }
                } else if (step == NOT) {
                    if (top > 0) {
                        waiting[top - 1] = waiting[top - 1] == 0 ? 1 : 0;
                    }
                } else if (top > 1) {
                    top--;
                    waiting[top - 1] = join(step, waiting[top - 1], waiting[top]);
                }
            }
            return top > 0 ? waiting[0] : 0;
        }

        private static int join(int step, int left, int right) {
            switch (step) {
                case OR: return left != 0 || right != 0 ? 1 : 0;
                case AND: return left != 0 && right != 0 ? 1 : 0;
                case LESS: return left < right ? 1 : 0;
                case LIKE: return left == right ? 1 : 0;
                case PLUS: return left + right;
                case MINUS: return left - right;
                case TIMES: return left * right;
                default: return right == 0 ? 0 : left / right;
            }
        }
    }

    /** Reads a text into a draft, up to its first fault. */
    private static final class Reader {
        private static final int END = 0;
        private static final int WORD = 1;
        private static final int NUMBER = 2;
        private static final int SIGN = 3;
        private static final int NO_TOKEN = 4;

        private static final int MISPLACED = 1;
        private static final int TOO_MUCH = 2;
        private static final int UNKNOWN = 3;
        private static final int CLASHING = 4;
        private static final int TWICE = 5;

        private static final int MOST_DIGITS = 4;
        private static final int MOST_AROUND = 5;
        private static final int MOST_NOTS = 6;

        private final byte[] text;
        private final Land draft;
        private int length = 0;
        private int start = 0;
        private int end = 0;
        private int kind = END;
        private int number = 0;
        private boolean townsTold = false;
        private boolean townNamed = false;
        private int fault = 0;
        int place = NONE;

        Reader(byte[] text, Land draft) {
            this.text = text;
            this.draft = draft;
        }

        int readText(int n) {
            length = Math.min(n, text.length);
            end = 0;
            townsTold = false;
            townNamed = false;
            fault = 0;
            place = NONE;
            draft.empty();
            nextToken();
            for (int line = 0; line < MOST_BYTES && fault == 0 && kind != END; line++) {
                readLine();
                readSign(';');
            }
            return fault;
        }

        private void refuse(int code) {
            fault = code;
            place = start;
        }

        private void nextToken() {
            start = end;
            while (start < length && (text[start] == 32 || text[start] == 10)) {
                start++;
            }
            end = start;
            number = 0;
            if (start >= length) {
                kind = END;
            } else if (isLetter(text[start])) {
                kind = WORD;
                while (end < length && isLetter(text[end])) {
                    end++;
                }
            } else if (isDigit(text[start])) {
                kind = NUMBER;
                while (end < length && isDigit(text[end])) {
                    // A number of five digits or more is refused anyway: it may wrap.
                    number = number * 10 + text[end] - '0';
                    end++;
                }
            } else {
                kind = ";()+-*/<=".indexOf((char) (text[start] & 255)) >= 0 ? SIGN : NO_TOKEN;
                end++;
            }
        }

        private static boolean isLetter(int sign) {
            return sign >= 'a' && sign <= 'z';
        }

        private static boolean isDigit(int sign) {
            return sign >= '0' && sign <= '9';
        }

        private boolean isWord(String word) {
            if (kind != WORD || end - start != word.length()) {
                return false;
            }
            for (int i = 0; i < word.length(); i++) {
                if (text[start + i] != word.charAt(i)) {
                    return false;
                }
            }
            return true;
        }

        private boolean isSign(char sign) {
            return kind == SIGN && text[start] == sign;
        }

        private void readLine() {
            if (isWord("towns")) {
                readTowns();
            } else if (isWord("road")) {
                readRoad();
            } else if (isWord("box")) {
                readBox();
            } else if (isWord("bearer")) {
                readBearer();
            } else if (isWord("talk")) {
                readRule(draft.talk);
            } else if (isWord("falls")) {
                readRule(draft.falls);
            } else {
                refuse(MISPLACED);
            }
        }

        private void readSign(char sign) {
            if (fault != 0) {
                return;
            }
            if (isSign(sign)) {
                nextToken();
            } else {
                refuse(MISPLACED);
            }
        }

        private int readNumber(int least, int most) {
            int found = number;
            if (fault != 0) {
                return least;
            }
            if (kind != NUMBER) {
                refuse(MISPLACED);
            } else if (end - start > MOST_DIGITS || found < least || found > most) {
                refuse(TOO_MUCH);
            } else {
                nextToken();
            }
            return found;
        }

        /** A number that is less than so many; for the second town of a road the first one, else NONE. */
        private int readName(int many, int first) {
            int found = number;
            if (fault != 0) {
                return 0;
            }
            if (kind != NUMBER) {
                refuse(MISPLACED);
            } else if (end - start > MOST_DIGITS) {
                refuse(TOO_MUCH);
            } else if (found >= many) {
                refuse(UNKNOWN);
            } else if (first != NONE && (found == first || draft.hasRoad(first, found))) {
                refuse(CLASHING);
            } else {
                nextToken();
            }
            return found;
        }

        private void readTowns() {
            if (townNamed) {
                refuse(CLASHING);
            } else if (townsTold) {
                refuse(TWICE);
            } else {
                townsTold = true;
                nextToken();
                draft.towns = readNumber(2, MOST_TOWNS);
            }
        }

        private void readRoad() {
            if (draft.roads >= MOST_ROADS) {
                refuse(TOO_MUCH);
                return;
            }
            nextToken();
            townNamed = true;
            int from = readName(draft.towns, NONE);
            int to = readName(draft.towns, from);
            int stairs = readNumber(0, 9);
            draft.addRoad(from, to, stairs);
        }

        private void readBox() {
            int box = draft.boxes;
            if (box >= MOST_BOXES) {
                refuse(TOO_MUCH);
                return;
            }
            nextToken();
            draft.weight[box] = readNumber(1, MOST_WEIGHT);
            townNamed = true;
            draft.addStop(box, 0, readName(draft.towns, NONE));
            for (int stop = 1; stop <= MOST_STOPS && fault == 0 && kind == NUMBER; stop++) {
                if (stop == MOST_STOPS) {
                    refuse(TOO_MUCH);
                } else {
                    draft.addStop(box, stop, readName(draft.towns, NONE));
                }
            }
            draft.boxes++;
        }

        private void readBearer() {
            int bearer = draft.bearers;
            if (bearer >= MOST_BEARERS) {
                refuse(TOO_MUCH);
                return;
            }
            nextToken();
            draft.strength[bearer] = readNumber(1, 40);
            draft.height[bearer] = readNumber(1, MOST_HEIGHT);
            draft.firstBox[bearer] = NONE;
            if (fault == 0 && isWord("under")) {
                nextToken();
                draft.firstBox[bearer] = readName(draft.boxes, NONE);
            }
            draft.bearers++;
        }

        private void readRule(Rule rule) {
            if (rule.told) {
                refuse(TWICE);
                return;
            }
            rule.told = true;
            nextToken();
            readExpr(rule, 0);
        }

        /** Around: within how many other expressions this one is. */
        private void readExpr(Rule rule, int around) {
            if (around > MOST_AROUND) {
                refuse(kind == NUMBER || kind == WORD || isSign('(') ? TOO_MUCH : MISPLACED);
                return;
            }
            readAnd(rule, around);
            for (int i = 0; i < MOST_BYTES && fault == 0 && isWord("or"); i++) {
                nextToken();
                readAnd(rule, around);
                rule.add(Rule.OR);
            }
        }

        private void readAnd(Rule rule, int around) {
            readNot(rule, around);
            for (int i = 0; i < MOST_BYTES && fault == 0 && isWord("and"); i++) {
                nextToken();
                readNot(rule, around);
                rule.add(Rule.AND);
            }
        }

        private void readNot(Rule rule, int around) {
            int nots = 0;
            while (nots < MOST_NOTS && isWord("not")) {
                nots++;
                nextToken();
            }
            if (isWord("not")) {
                refuse(TOO_MUCH);
                return;
            }
            readSum(rule, around);
            if (fault == 0 && (isSign('<') || isSign('='))) {
                int step = isSign('<') ? Rule.LESS : Rule.LIKE;
                nextToken();
                readSum(rule, around);
                rule.add(step);
            }
            for (int i = 0; i < nots; i++) {
                rule.add(Rule.NOT);
            }
        }

        private void readSum(Rule rule, int around) {
            readProduct(rule, around);
            for (int i = 0; i < MOST_BYTES && fault == 0 && (isSign('+') || isSign('-')); i++) {
                int step = isSign('+') ? Rule.PLUS : Rule.MINUS;
                nextToken();
                readProduct(rule, around);
                rule.add(step);
            }
        }

        private void readProduct(Rule rule, int around) {
            readPart(rule, around);
            for (int i = 0; i < MOST_BYTES && fault == 0 && (isSign('*') || isSign('/')); i++) {
                int step = isSign('*') ? Rule.TIMES : Rule.OVER;
                nextToken();
                readPart(rule, around);
                rule.add(step);
            }
        }

        private void readPart(Rule rule, int around) {
            if (isSign('(')) {
                nextToken();
                readExpr(rule, around + 1);
                readSign(')');
            } else if (kind == NUMBER) {
                rule.add(readNumber(0, 9999));
            } else if (kind != WORD) {
                refuse(MISPLACED);
            } else if (valueStep() == 0) {
                refuse(UNKNOWN);
            } else {
                rule.add(valueStep());
                nextToken();
            }
        }

        private int valueStep() {
            if (isWord("weight")) {
                return Rule.WEIGHT;
            } else if (isWord("hands")) {
                return Rule.HANDS;
            } else if (isWord("might")) {
                return Rule.MIGHT;
            } else if (isWord("lean")) {
                return Rule.LEAN;
            } else if (isWord("borne")) {
                return Rule.BORNE;
            } else if (isWord("town")) {
                return Rule.TOWN;
            }
            return isWord("day") ? Rule.DAY : 0;
        }
    }

    /** What the days change. */
    private static final class State {
        static final int ROW = 1 + 2 * MOST_BOXES + 2 * MOST_BEARERS;
        private static final int PLACES = 1 + MOST_BOXES;
        private static final int UNDERS = PLACES + MOST_BOXES;
        private static final int TIREDS = UNDERS + MOST_BEARERS;

        final Land land;
        int day = 0;
        final int[] weight = new int[MOST_BOXES];
        final int[] place = new int[MOST_BOXES];
        final int[] under = new int[MOST_BEARERS];
        final int[] tired = new int[MOST_BEARERS];
        int fell = 0;
        int carried = 0;
        private final int[] values = new int[Rule.VALUES];

        State(Land land) {
            this.land = land;
        }

        void begin() {
            day = 0;
            System.arraycopy(land.weight, 0, weight, 0, MOST_BOXES);
            Arrays.fill(place, 0);
            System.arraycopy(land.firstBox, 0, under, 0, MOST_BEARERS);
            Arrays.fill(tired, 0);
        }

        void copyFrom(State other) {
            day = other.day;
            System.arraycopy(other.weight, 0, weight, 0, MOST_BOXES);
            System.arraycopy(other.place, 0, place, 0, MOST_BOXES);
            System.arraycopy(other.under, 0, under, 0, MOST_BEARERS);
            System.arraycopy(other.tired, 0, tired, 0, MOST_BEARERS);
        }

        void writeTo(int[] rows, int at) {
            rows[at] = day;
            System.arraycopy(weight, 0, rows, at + 1, MOST_BOXES);
            System.arraycopy(place, 0, rows, at + PLACES, MOST_BOXES);
            System.arraycopy(under, 0, rows, at + UNDERS, MOST_BEARERS);
            System.arraycopy(tired, 0, rows, at + TIREDS, MOST_BEARERS);
        }

        void readFrom(int[] rows, int at) {
            day = rows[at];
            System.arraycopy(rows, at + 1, weight, 0, MOST_BOXES);
            System.arraycopy(rows, at + PLACES, place, 0, MOST_BOXES);
            System.arraycopy(rows, at + UNDERS, under, 0, MOST_BEARERS);
            System.arraycopy(rows, at + TIREDS, tired, 0, MOST_BEARERS);
        }

        int townOf(int box) {
            return land.townAt(box, place[box]);
        }

        /** The bearers under a box; under NONE the idle ones. */
        int bitsUnder(int box) {
            int bits = 0;
            for (int bearer = 0; bearer < land.bearers; bearer++) {
                if (under[bearer] == box) {
                    bits |= 1 << bearer;
                }
            }
            return bits;
        }

        int mightOf(int bearer) {
            return Math.max(0, land.strength[bearer] - 2 * tired[bearer]);
        }

        int mightOfAll(int bits) {
            int might = 0;
            for (int bearer = 0; bearer < land.bearers; bearer++) {
                if (hasBit(bits, bearer)) {
                    might += mightOf(bearer);
                }
            }
            return might;
        }

        boolean isBorneBy(int box, int bits) {
            return bits != 0 && mightOfAll(bits) >= weight[box];
        }

        boolean isBorne(int box) {
            return isBorneBy(box, bitsUnder(box));
        }

        int borneBits() {
            int bits = 0;
            for (int box = 0; box < land.boxes; box++) {
                if (isBorne(box)) {
                    bits |= 1 << box;
                }
            }
            return bits;
        }

        int neededBits(int box) {
            int bits = bitsUnder(box);
            if (!isBorneBy(box, bits)) {
                return 0;
            }
            int needed = 0;
            for (int bearer = 0; bearer < land.bearers; bearer++) {
                if (hasBit(bits, bearer) && !isBorneBy(box, bits & ~(1 << bearer))) {
                    needed |= 1 << bearer;
                }
            }
            return needed;
        }

        int loadOf(int bearer) {
            int box = under[bearer];
            if (!land.hasBox(box)) {
                return 0;
            }
            int hands = Integer.bitCount(bitsUnder(box));
            return hands == 0 ? 0 : weight[box] / hands;
        }

        int weightOfAll() {
            int sum = 0;
            for (int box = 0; box < land.boxes; box++) {
                sum += weight[box];
            }
            return sum;
        }

        int heaviest() {
            int best = NONE;
            int most = 0;
            for (int box = 0; box < land.boxes; box++) {
                if (weight[box] > most) {
                    best = box;
                    most = weight[box];
                }
            }
            return best;
        }

        int bitsIn(int town) {
            int bits = 0;
            for (int box = 0; box < land.boxes; box++) {
                if (townOf(box) == town) {
                    bits |= 1 << box;
                }
            }
            return bits;
        }

        int bestCrew(int box) {
            int best = NONE;
            int least = NONE;
            for (int bits = 1; bits < (1 << land.bearers); bits++) {
                int cost = land.leanOf(bits) * 10 + Integer.bitCount(bits);
                if ((best == NONE || cost < least) && isBorneBy(box, bits)) {
                    best = bits;
                    least = cost;
                }
            }
            return best;
        }

        void addWeight(int box, int more) {
            weight[box] = within(weight[box] + more, 1, MOST_WEIGHT);
        }

        void getWet() {
            for (int bearer = 0; bearer < land.bearers; bearer++) {
                if (under[bearer] != NONE) {
                    tireOut(bearer);
                }
            }
        }

        /** How often a box was carried on in these days. */
        int passDays(int many) {
            int often = 0;
            for (int i = 0; i < many; i++) {
                passDay();
                often += carried;
            }
            return often;
        }

        void passDay() {
            fell = 0;
            carried = 0;
            int stunned = 0;
            for (int box = 0; box < land.boxes; box++) {
                stunned |= passBox(box);
            }
            for (int bearer = 0; bearer < land.bearers; bearer++) {
                if (under[bearer] == NONE && !hasBit(stunned, bearer)) {
                    tired[bearer] = Math.max(0, tired[bearer] - 2);
                }
            }
            day++;
        }

        /** A day for one box: who is stunned by it. What happens to the others changes nothing here. */
        int passBox(int box) {
            survey(box);
            int more = valueOf(Rule.BORNE) == 1 ? 1 : -1;
            if (land.talk.told) {
                more = within(land.talk.workOut(values), -9, 9);
            }
            addWeight(box, more);
            survey(box);
            boolean borne = valueOf(Rule.BORNE) == 1;
            boolean falls = borne && valueOf(Rule.LEAN) > 5;
            if (land.falls.told) {
                falls = land.falls.workOut(values) > 0;
            }
            if (falls) {
                return letFall(box);
            }
            if (borne) {
                carryOn(box);
            }
            return 0;
        }

        /** Once for all that the rules may ask of a box. */
        private void survey(int box) {
            int hands = 0;
            int might = 0;
            int tallest = 0;
            int shortest = MOST_HEIGHT;
            for (int bearer = 0; bearer < land.bearers; bearer++) {
                if (under[bearer] == box) {
                    hands++;
                    might += mightOf(bearer);
                    tallest = Math.max(tallest, land.height[bearer]);
                    shortest = Math.min(shortest, land.height[bearer]);
                }
            }
            keepValue(Rule.WEIGHT, weight[box]);
            keepValue(Rule.HANDS, hands);
            keepValue(Rule.MIGHT, might);
            keepValue(Rule.LEAN, hands == 0 ? 0 : tallest - shortest);
            keepValue(Rule.BORNE, hands > 0 && might >= weight[box] ? 1 : 0);
            keepValue(Rule.TOWN, land.townAt(box, place[box]));
            keepValue(Rule.DAY, day);
        }

        private void keepValue(int step, int value) {
            values[Rule.WEIGHT - step] = value;
        }

        private int valueOf(int step) {
            return values[Rule.WEIGHT - step];
        }

        private int letFall(int box) {
            int stunned = bitsUnder(box);
            weight[box] = Math.max(1, weight[box] / 2);
            for (int bearer = 0; bearer < land.bearers; bearer++) {
                if (hasBit(stunned, bearer)) {
                    under[bearer] = NONE;
                }
            }
            fell |= 1 << box;
            return stunned;
        }

        private void carryOn(int box) {
            place[box] = land.nextPlace(box, place[box]);
            for (int bearer = 0; bearer < land.bearers; bearer++) {
                if (under[bearer] == box) {
                    tireOut(bearer);
                }
            }
            carried++;
        }

        private void tireOut(int bearer) {
            if (tired[bearer] < MOST_TIRED) {
                tired[bearer]++;
            }
        }
    }

    /** How all was ahead of each act that is kept. */
    private static final class Past {
        int many = 0;
        private final int[] rows = new int[MOST_ACTS * State.ROW];

        void keep(State state) {
            if (many >= MOST_ACTS) {
                many = MOST_ACTS - 1;
                System.arraycopy(rows, State.ROW, rows, 0, many * State.ROW);
            }
            state.writeTo(rows, many * State.ROW);
            many++;
        }

        boolean takeBack(State state) {
            if (many < 1) {
                return false;
            }
            many--;
            state.readFrom(rows, many * State.ROW);
            return true;
        }

        void copyFrom(Past other) {
            many = other.many;
            System.arraycopy(other.rows, 0, rows, 0, many * State.ROW);
        }
    }

    /** Weights that were seen. */
    private static final class Seen {
        int many = 0;
        private final int[] boxes = new int[MOST_SEEN];
        private final int[] days = new int[MOST_SEEN];
        private final int[] weights = new int[MOST_SEEN];

        void add(int box, int day, int weight) {
            if (many < MOST_SEEN) {
                boxes[many] = box;
                days[many] = day;
                weights[many] = weight;
                many++;
            }
        }

        void copyFrom(Seen other) {
            many = other.many;
            System.arraycopy(other.boxes, 0, boxes, 0, MOST_SEEN);
            System.arraycopy(other.days, 0, days, 0, MOST_SEEN);
            System.arraycopy(other.weights, 0, weights, 0, MOST_SEEN);
        }

        /** The last day behind which a box was seen; NONE, if it wasn't. */
        int lastDayOf(int box) {
            int last = NONE;
            for (int i = 0; i < many; i++) {
                if (boxes[i] == box) {
                    last = Math.max(last, days[i]);
                }
            }
            return last;
        }

        boolean agrees(int box, int day, int weight) {
            for (int i = 0; i < many; i++) {
                if (boxes[i] == box && days[i] == day && weights[i] != weight) {
                    return false;
                }
            }
            return true;
        }
    }

    /** Which other weights now would make all that was seen so. */
    private static final class Scale {
        private static final int WEIGHTS = MOST_WEIGHT + 1;

        private final State now;
        private final State future;
        private final Seen seen;
        private final int[] fits = new int[MOST_BOXES * WEIGHTS];
        private final int[] fitting = new int[MOST_BOXES];
        private final int[] marks = new int[WEIGHTS];
        int many = 0;
        int mostUnlike = NONE;
        int howUnlike = 0;

        Scale(State now, State future, Seen seen) {
            this.now = now;
            this.future = future;
            this.seen = seen;
        }

        /** The boxes of which something was seen that isn't so with the weights as they are. */
        int unmetBits() {
            int bits = 0;
            for (int box = 0; box < now.land.boxes; box++) {
                if (!agreesWith(box, now.weight[box])) {
                    bits |= 1 << box;
                }
            }
            return bits;
        }

        /** Whether all that was seen of a box would be so by a weight. */
        private boolean agreesWith(int box, int weight) {
            int last = seen.lastDayOf(box);
            if (last == NONE) {
                return true;
            }
            future.copyFrom(now);
            future.weight[box] = weight;
            for (int day = 0; day < last; day++) {
                if (!seen.agrees(box, day, future.weight[box])) {
                    return false;
                }
                future.passBox(box);
                future.day++;
            }
            return seen.agrees(box, last, future.weight[box]);
        }

        void tryAll() {
            int unmet = unmetBits();
            many = 0;
            for (int box = 0; box < now.land.boxes; box++) {
                // Another weight of one box doesn't mend what was seen of the others.
                boolean open = (unmet & ~(1 << box)) == 0;
                fitting[box] = 0;
                for (int weight = 1; weight <= MOST_WEIGHT; weight++) {
                    boolean fit = open && weight != now.weight[box] && agreesWith(box, weight);
                    fits[box * WEIGHTS + weight] = fit ? 1 : 0;
                    fitting[box] += fit ? 1 : 0;
                }
                many += fitting[box];
            }
        }

        int firstOne() {
            for (int box = 0; box < now.land.boxes; box++) {
                for (int weight = 1; weight <= MOST_WEIGHT; weight++) {
                    if (fits[box * WEIGHTS + weight] == 1) {
                        return 100 * box + weight;
                    }
                }
            }
            return NONE;
        }

        void compareLater() {
            mostUnlike = NONE;
            howUnlike = 0;
            for (int box = 0; box < now.land.boxes; box++) {
                int much = unlikeOf(box);
                if (much > howUnlike) {
                    mostUnlike = box;
                    howUnlike = much;
                }
            }
        }

        private int unlikeOf(int box) {
            Arrays.fill(marks, 0);
            for (int weight = 1; weight <= MOST_WEIGHT; weight++) {
                if (fits[box * WEIGHTS + weight] == 1) {
                    mark(weightLater(box, weight));
                }
            }
            // By another weight of another box this one goes on as it is.
            if (many > fitting[box]) {
                mark(weightLater(box, now.weight[box]));
            }
            int much = 0;
            for (int weight = 1; weight <= MOST_WEIGHT; weight++) {
                much += marks[weight];
            }
            return much;
        }

        private void mark(int weight) {
            if (weight > 0 && weight < WEIGHTS) {
                marks[weight] = 1;
            }
        }

        private int weightLater(int box, int weight) {
            future.copyFrom(now);
            future.weight[box] = weight;
            for (int day = 0; day < LOOK_DAYS; day++) {
                future.passBox(box);
                future.day++;
            }
            return future.weight[box];
        }
    }

    /** How all boxes could be borne by the fewest. */
    private static final class Sharing {
        private final State now;
        private final int[] might = new int[CREWS];
        private final int[] fewest = new int[(MOST_BOXES + 1) * CREWS];

        Sharing(State now) {
            this.now = now;
        }

        private int everyone() {
            return (1 << now.land.bearers) - 1;
        }

        /** From the last box on: by how few of those who are free it and all behind it could be borne. */
        void workOut() {
            int all = everyone();
            int boxes = now.land.boxes;
            for (int bits = 0; bits <= all; bits++) {
                might[bits] = now.mightOfAll(bits);
                fewest[boxes * CREWS + bits] = 0;
            }
            for (int box = boxes - 1; box >= 0; box--) {
                // Ahead of the first box nobody is busy yet.
                for (int free = box == 0 ? all : 0; free <= all; free++) {
                    fewest[box * CREWS + free] = fewestOf(box, free);
                }
            }
        }

        private int fewestOf(int box, int free) {
            int best = NONE;
            if (Integer.bitCount(free) < now.land.boxes - box) {
                return NONE;
            }
            for (int bits = free; bits > 0; bits = (bits - 1) & free) {
                int many = manyWith(box, free, bits);
                if (many != NONE && (best == NONE || many < best)) {
                    best = many;
                }
            }
            return best;
        }

        /** How many it takes, if these are under a box; NONE, if that can't be. */
        private int manyWith(int box, int free, int bits) {
            if (might[bits] < now.weight[box]) {
                return NONE;
            }
            int rest = fewest[(box + 1) * CREWS + (free & ~bits)];
            return rest == NONE ? NONE : rest + Integer.bitCount(bits);
        }

        int fewestOfAll() {
            return fewest[everyone()];
        }

        int rowAt(int i) {
            int free = everyone();
            int bits = NONE;
            for (int box = 0; box <= i; box++) {
                bits = leastBits(box, free);
                if (bits == NONE) {
                    return NONE;
                }
                free &= ~bits;
            }
            return bits;
        }

        private int leastBits(int box, int free) {
            int wanted = fewest[box * CREWS + free];
            if (wanted == NONE) {
                return NONE;
            }
            for (int bits = 1; bits <= free; bits++) {
                if ((bits & ~free) == 0 && manyWith(box, free, bits) == wanted) {
                    return bits;
                }
            }
            return NONE;
        }
    }

    /** Numbers that follow from a seed. */
    private static final class Draws {
        int seed = 0;

        int drawOf(int many) {
            seed = seed * 1103515245 + 12345;
            return many < 1 ? 0 : (seed >>> 16 & 32767) % many;
        }
    }
}
