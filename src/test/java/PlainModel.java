import java.util.ArrayDeque;
import java.util.ArrayList;
import java.util.Deque;
import java.util.HashSet;
import java.util.List;
import java.util.NoSuchElementException;
import java.util.Set;

/** The document once more, as slow and as plain as can be, for ModelTest to compare with. */
public final class PlainModel {
    private static final int NONE = -1;

    interface Expr {
        int of(World s, int box);
    }

    static final class Fault extends Exception {
        final int code;
        final int place;

        Fault(int code, int place) {
            this.code = code;
            this.place = place;
        }
    }

    static final class Token {
        final String text;
        final int place;

        Token(String text, int place) {
            this.text = text;
            this.place = place;
        }

        boolean isNumber() {
            return text.matches("[0-9]+");
        }

        boolean isWord() {
            return text.matches("[a-z]+");
        }
    }

    static final class Ground {
        int towns = 4;
        final List<int[]> roads = new ArrayList<>();
        final List<Integer> weights = new ArrayList<>();
        final List<List<Integer>> routes = new ArrayList<>();
        final List<int[]> bearers = new ArrayList<>();
        Expr talk = null;
        Expr falls = null;
    }

    static final class World {
        Ground g;
        int day;
        int[] weight;
        int[] place;
        int[] under;
        int[] tired;
        Set<Integer> fell = new HashSet<>();
        int carried = 0;

        World copy() {
            World s = new World();
            s.g = g;
            s.day = day;
            s.weight = weight.clone();
            s.place = place.clone();
            s.under = under.clone();
            s.tired = tired.clone();
            return s;
        }

        int boxes() {
            return weight.length;
        }

        int bearers() {
            return under.length;
        }

        int town(int box) {
            return g.routes.get(box).get(place[box]);
        }

        int might(int b) {
            int m = g.bearers.get(b)[0] - tired[b] - tired[b];
            return m < 0 ? 0 : m;
        }

        List<Integer> crewOf(int box) {
            List<Integer> list = new ArrayList<>();
            for (int b = 0; b < bearers(); b++) {
                if (under[b] == box) {
                    list.add(b);
                }
            }
            return list;
        }

        int mightOf(List<Integer> list) {
            return list.stream().mapToInt(this::might).sum();
        }

        int leanOf(List<Integer> list) {
            int hi = list.stream().mapToInt(b -> g.bearers.get(b)[1]).max().orElse(0);
            int lo = list.stream().mapToInt(b -> g.bearers.get(b)[1]).min().orElse(0);
            return hi - lo;
        }

        boolean borneBy(int box, List<Integer> list) {
            return !list.isEmpty() && mightOf(list) >= weight[box];
        }

        boolean borne(int box) {
            return borneBy(box, crewOf(box));
        }

        void dayGoesBy() {
            fell.clear();
            carried = 0;
            Set<Integer> stunned = new HashSet<>();
            for (int box = 0; box < boxes(); box++) {
                int more = g.talk != null ? Math.max(-9, Math.min(9, g.talk.of(this, box))) : borne(box) ? 1 : -1;
                weight[box] = Math.max(1, Math.min(99, weight[box] + more));
                boolean lets = g.falls != null ? g.falls.of(this, box) > 0 : borne(box) && leanOf(crewOf(box)) > 5;
                if (lets) {
                    weight[box] = Math.max(1, weight[box] / 2);
                    for (int b : crewOf(box)) {
                        under[b] = NONE;
                        stunned.add(b);
                    }
                    fell.add(box);
                } else if (borne(box)) {
                    place[box] = (place[box] + 1) % g.routes.get(box).size();
                    for (int b : crewOf(box)) {
                        tired[b] = Math.min(9, tired[b] + 1);
                    }
                    carried++;
                }
            }
            for (int b = 0; b < bearers(); b++) {
                if (under[b] == NONE && !stunned.contains(b)) {
                    tired[b] = Math.max(0, tired[b] - 2);
                }
            }
            day++;
        }

        World after(int days) {
            World s = copy();
            int sum = 0;
            for (int i = 0; i < days; i++) {
                s.dayGoesBy();
                sum += s.carried;
            }
            s.carried = sum;
            return s;
        }

        int weightOfAll() {
            int sum = 0;
            for (int w : weight) {
                sum += w;
            }
            return sum;
        }
    }

    private StringBuilder tape = new StringBuilder();
    private int place = NONE;
    private final int[] refused = new int[3];
    private Ground ground = new Ground();
    private World now = begin(ground);
    private Deque<World> acts = new ArrayDeque<>();
    private List<int[]> seen = new ArrayList<>();
    private World imageNow = null;
    private Deque<World> imageActs = null;
    private List<int[]> imageSeen = null;

    private static World begin(Ground g) {
        World s = new World();
        s.g = g;
        s.weight = g.weights.stream().mapToInt(w -> w).toArray();
        s.place = new int[g.weights.size()];
        s.under = g.bearers.stream().mapToInt(b -> b[2]).toArray();
        s.tired = new int[g.bearers.size()];
        return s;
    }

    private static int bits(Iterable<Integer> list) {
        int bits = 0;
        for (int i : list) {
            bits |= 1 << i;
        }
        return bits;
    }

    private static List<Integer> list(int bits) {
        List<Integer> list = new ArrayList<>();
        for (int i = 0; i < 31; i++) {
            if ((bits & 1 << i) != 0) {
                list.add(i);
            }
        }
        return list;
    }

    private void needBox(int box) {
        need(box >= 0 && box < now.boxes());
    }

    private void needBearer(int bearer) {
        need(bearer >= 0 && bearer < now.bearers());
    }

    private void needTown(int town) {
        need(town >= 0 && town < ground.towns);
    }

    private static void need(boolean there) {
        if (!there) {
            throw new NoSuchElementException();
        }
    }

    private static void allow(boolean right) {
        if (!right) {
            throw new IllegalArgumentException();
        }
    }

    private void act() {
        acts.addLast(now.copy());
        if (acts.size() > 40) {
            acts.removeFirst();
        }
    }

    public int feed(int a, int b, int c, int d, int e) {
        if (tape.length() > 680) {
            return NONE;
        }
        for (int n : new int[] {a, b, c, d, e}) {
            tape.append((char) (n >> 24 & 255)).append((char) (n >> 16 & 255));
            tape.append((char) (n >> 8 & 255)).append((char) (n & 255));
        }
        return tape.length();
    }

    public int land(int n) {
        allow(n >= 0 && n <= tape.length());
        String text = tape.substring(0, n);
        tape.setLength(0);
        try {
            Ground g = new Parser(text).whole();
            ground = g;
            now = begin(g);
            acts.clear();
            seen.clear();
            imageNow = null;
            place = NONE;
            return 0;
        } catch (Fault f) {
            refused[0]++;
            place = f.place;
            return f.code;
        }
    }

    public int fault() {
        return place;
    }

    public int count(int what) {
        need(what >= 0 && what <= 14);
        int pairs = 0;
        int borne = 0;
        for (int i = 0; i < now.bearers(); i++) {
            for (int j = 0; j < i; j++) {
                pairs += ground.bearers.get(i)[1] == ground.bearers.get(j)[1] ? 1 : 0;
            }
        }
        for (int box = 0; box < now.boxes(); box++) {
            borne += now.borne(box) ? 1 << box : 0;
        }
        return new int[] {ground.towns, ground.roads.size(), now.boxes(), now.bearers(), now.day, borne,
            bits(now.crewOf(NONE)), now.weightOfAll(), pairs, acts.size(), seen.size(), tape.length(),
            refused[0], refused[1], refused[2]}[what];
    }

    public int box(int box, int what) {
        needBox(box);
        need(what >= 0 && what <= 6);
        List<Integer> crew = now.crewOf(box);
        int needed = 0;
        for (int b : crew) {
            List<Integer> rest = new ArrayList<>(crew);
            rest.remove((Integer) b);
            needed |= now.borne(box) && !now.borneBy(box, rest) ? 1 << b : 0;
        }
        return new int[] {now.weight[box], now.town(box), bits(crew), now.leanOf(crew),
            now.mightOf(crew) - now.weight[box], ground.routes.get(box).size(), needed}[what];
    }

    public int bearer(int bearer, int what) {
        needBearer(bearer);
        need(what >= 0 && what <= 5);
        int[] b = ground.bearers.get(bearer);
        int box = now.under[bearer];
        int load = box == NONE ? 0 : now.weight[box] / now.crewOf(box).size();
        return new int[] {b[0], b[1], box, now.tired[bearer], now.might(bearer), load}[what];
    }

    public int days(int many) {
        if (many < 1 || many > 20 || now.day + many > 999) {
            refused[1]++;
            return NONE;
        }
        act();
        now = now.after(many);
        return now.day;
    }

    public int hand(int bearer, int box) {
        needBearer(bearer);
        needBox(box);
        int was = now.under[bearer];
        if (was == box) {
            refused[1]++;
            return -2;
        }
        act();
        now.under[bearer] = box;
        return was;
    }

    public int away(int bearer) {
        needBearer(bearer);
        int was = now.under[bearer];
        if (was == NONE) {
            refused[1]++;
        } else {
            act();
            now.under[bearer] = NONE;
        }
        return was;
    }

    public boolean change(int bearer, int other) {
        needBearer(bearer);
        needBearer(other);
        int was = now.under[bearer];
        if (was == now.under[other]) {
            refused[1]++;
            return false;
        }
        act();
        now.under[bearer] = now.under[other];
        now.under[other] = was;
        return true;
    }

    public int slander(int box, int less) {
        needBox(box);
        if (less < 1 || less > 30) {
            refused[1]++;
            return NONE;
        }
        act();
        return now.weight[box] = Math.max(1, now.weight[box] - less);
    }

    public int praise(int box, int more) {
        needBox(box);
        if (more < 1 || more > 30) {
            refused[1]++;
            return NONE;
        }
        act();
        return now.weight[box] = Math.min(99, now.weight[box] + more);
    }

    public int undo() {
        if (acts.isEmpty()) {
            return NONE;
        }
        now = acts.removeLast();
        return acts.size();
    }

    public int then(int box, int days, int what) {
        needBox(box);
        need(what >= 0 && what <= 3);
        allow(days >= 0 && days <= 40);
        World s = now.after(days);
        return new int[] {s.weight[box], s.town(box), bits(s.crewOf(box)), s.borne(box) ? 1 : 0}[what];
    }

    public int who(int bearer, int days, int what) {
        needBearer(bearer);
        need(what == 0 || what == 1);
        allow(days >= 0 && days <= 40);
        World s = now.after(days);
        return what == 0 ? s.tired[bearer] : s.under[bearer];
    }

    public int fallen(int box) {
        needBox(box);
        for (int day = 1; day <= 40; day++) {
            if (now.after(day).fell.contains(box)) {
                return day;
            }
        }
        return NONE;
    }

    public int rests(int box) {
        needBox(box);
        for (int day = 0; day <= 40; day++) {
            if (!now.after(day).borne(box)) {
                return day;
            }
        }
        return NONE;
    }

    public int meet(int box, int other) {
        needBox(box);
        needBox(other);
        for (int day = 0; day <= 40 && box != other; day++) {
            World s = now.after(day);
            if (s.town(box) == s.town(other)) {
                return day;
            }
        }
        return NONE;
    }

    public int later(int days, int what) {
        need(what == 0 || what == 1);
        allow(days >= 0 && days <= 40);
        World s = now.after(days);
        if (what == 1) {
            return s.carried;
        }
        int best = NONE;
        for (int box = 0; box < s.boxes(); box++) {
            if (best == NONE || s.weight[box] > s.weight[best]) {
                best = box;
            }
        }
        return best;
    }

    public int calls(int town, int days) {
        needTown(town);
        allow(days >= 0 && days <= 40);
        Set<Integer> there = new HashSet<>();
        for (int day = 0; day <= days; day++) {
            World s = now.after(day);
            for (int box = 0; box < s.boxes(); box++) {
                if (s.town(box) == town) {
                    there.add(box);
                }
            }
        }
        return bits(there);
    }

    /** All rows of crews one after another, each as bits. */
    private void shareOut(int[] row, int box, int busy, int[][] best) {
        if (box == row.length) {
            if (best[0] == null || Integer.bitCount(busy) < count(best[0])) {
                best[0] = row.clone();
            }
            return;
        }
        for (int bits = 0; bits < 1 << now.bearers(); bits++) {
            if ((bits & busy) == 0 && now.borneBy(box, list(bits))) {
                row[box] = bits;
                shareOut(row, box + 1, busy | bits, best);
            }
        }
    }

    private static int count(int[] row) {
        int sum = 0;
        for (int bits : row) {
            sum += Integer.bitCount(bits);
        }
        return sum;
    }

    public int toBear(int i) {
        if (i != NONE) {
            needBox(i);
        }
        int[][] best = new int[1][];
        shareOut(new int[now.boxes()], 0, 0, best);
        if (best[0] == null) {
            return NONE;
        }
        return i == NONE ? count(best[0]) : best[0][i];
    }

    public int crew(int box) {
        needBox(box);
        int best = NONE;
        for (int bits = 1; bits < 1 << now.bearers(); bits++) {
            if (now.borneBy(box, list(bits)) && (best == NONE || better(bits, best))) {
                best = bits;
            }
        }
        return best;
    }

    private boolean better(int bits, int best) {
        int lean = now.leanOf(list(bits)) - now.leanOf(list(best));
        return lean < 0 || lean == 0 && Integer.bitCount(bits) < Integer.bitCount(best);
    }

    public int toSlander(int box) {
        needBox(box);
        for (int less = 0; less <= now.weight[box] - 1; less++) {
            World s = now.copy();
            s.weight[box] -= less;
            if (s.borne(box)) {
                return less;
            }
        }
        return NONE;
    }

    public int toWait(int box) {
        needBox(box);
        for (int day = 0; day <= 40; day++) {
            if (now.after(day).borne(box)) {
                return day;
            }
        }
        return NONE;
    }

    private int[][] ways(int what) {
        int n = ground.towns;
        int[][] d = new int[n][n];
        for (int i = 0; i < n; i++) {
            for (int j = 0; j < n; j++) {
                d[i][j] = i == j ? 0 : 9999;
            }
        }
        for (int[] road : ground.roads) {
            d[road[0]][road[1]] = d[road[1]][road[0]] = what == 1 ? 1 : road[2];
        }
        for (int k = 0; k < n; k++) {
            for (int i = 0; i < n; i++) {
                for (int j = 0; j < n; j++) {
                    int by = what == 2 ? Math.max(d[i][k], d[k][j]) : d[i][k] + d[k][j];
                    d[i][j] = Math.min(d[i][j], by);
                }
            }
        }
        return d;
    }

    public int way(int town, int other, int what) {
        needTown(town);
        needTown(other);
        need(what >= 0 && what <= 2);
        int d = ways(what)[town][other];
        return d >= 9999 ? NONE : d;
    }

    public int see(int box, int days, int weight) {
        needBox(box);
        if (seen.size() == 8 || days < 0 || days > 12 || weight < 1 || weight > 99) {
            refused[2]++;
            return NONE;
        }
        seen.add(new int[] {box, days, weight});
        return seen.size();
    }

    public void forget() {
        seen.clear();
    }

    private boolean allSo(World s) {
        int last = 0;
        for (int[] one : seen) {
            last = Math.max(last, one[1]);
        }
        World w = s.copy();
        for (int day = 0; day <= last; day++) {
            for (int[] one : seen) {
                if (one[1] == day && w.weight[one[0]] != one[2]) {
                    return false;
                }
            }
            w.dayGoesBy();
        }
        return true;
    }

    private List<World> others() {
        List<World> list = new ArrayList<>();
        for (int box = 0; box < now.boxes(); box++) {
            for (int w = 1; w <= 99; w++) {
                World s = now.copy();
                s.weight[box] = w;
                s.carried = 100 * box + w;
                if (w != now.weight[box] && allSo(s)) {
                    list.add(s);
                }
            }
        }
        return list;
    }

    public int weighed(int what) {
        need(what >= 0 && what <= 2);
        if (what == 2) {
            return allSo(now) ? 1 : 0;
        }
        List<World> others = others();
        if (what == 0) {
            return others.size();
        }
        return others.isEmpty() ? NONE : others.get(0).carried;
    }

    public int look(int what) {
        need(what == 0 || what == 1);
        List<World> others = others();
        int best = NONE;
        int most = 0;
        List<Set<Integer>> sets = new ArrayList<>();
        for (int box = 0; box < now.boxes(); box++) {
            sets.add(new HashSet<>());
        }
        for (World s : others) {
            World then = s.after(5);
            for (int box = 0; box < now.boxes(); box++) {
                sets.get(box).add(then.weight[box]);
            }
        }
        for (int box = 0; box < now.boxes(); box++) {
            if (sets.get(box).size() > most) {
                best = box;
                most = sets.get(box).size();
            }
        }
        return what == 0 ? best : most;
    }

    private int wet(World s, int box, int days, int tenths) {
        if (days == 0) {
            return s.borne(box) ? 1 : 0;
        }
        World rain = s.copy();
        for (int b = 0; b < rain.bearers(); b++) {
            rain.tired[b] = rain.under[b] == NONE ? rain.tired[b] : Math.min(9, rain.tired[b] + 1);
        }
        return tenths * wet(rain.after(1), box, days - 1, tenths) + (10 - tenths) * wet(s.after(1), box, days - 1, tenths);
    }

    public int rain(int box, int days, int tenths) {
        needBox(box);
        allow(days >= 1 && days <= 5 && tenths >= 0 && tenths <= 10);
        return wet(now, box, days, tenths);
    }

    private int gain(int bearer, int[] gone, int me) {
        World s = now.copy();
        int box = s.under[bearer];
        for (int b : gone) {
            if (b != NONE) {
                s.under[b] = NONE;
            }
        }
        return (s.borne(box) ? 4 : 0) - (gone[me] == NONE ? now.tired[bearer] : 0);
    }

    public int game(int bearer, int other, int what) {
        needBearer(bearer);
        needBearer(other);
        need(what == 0 || what == 1);
        allow(bearer != other);
        if (now.under[bearer] == NONE || now.under[bearer] != now.under[other]) {
            return NONE;
        }
        List<Integer> rest = new ArrayList<>();
        for (int x = 0; x <= 1; x++) {
            for (int y = 0; y <= 1; y++) {
                int a = x == 1 ? bearer : NONE;
                int na = x == 1 ? NONE : bearer;
                int b = y == 1 ? other : NONE;
                int nb = y == 1 ? NONE : other;
                boolean first = gain(bearer, new int[] {na, b}, 0) > gain(bearer, new int[] {a, b}, 0);
                boolean second = gain(other, new int[] {a, nb}, 1) > gain(other, new int[] {a, b}, 1);
                if (!first && !second) {
                    rest.add(10 * x + y);
                }
            }
        }
        return what == 0 ? rest.size() : rest.isEmpty() ? NONE : rest.get(0);
    }

    private int seed;

    private int draw(int n) {
        seed = seed * 1103515245 + 12345;
        return (seed >> 16 & 0x7fff) % n;
    }

    public int years(int seed, int n, int what) {
        need(what >= 0 && what <= 2);
        allow(n >= 0 && n <= 40);
        this.seed = seed;
        World s = now.copy();
        int falls = 0;
        for (int day = 0; day < n; day++) {
            int kind = draw(6);
            if (s.boxes() > 0 && s.bearers() > 0) {
                if (kind == 0) {
                    int b = draw(s.bearers());
                    int box = draw(s.boxes());
                    s.under[b] = box;
                } else if (kind == 1) {
                    s.under[draw(s.bearers())] = NONE;
                } else if (kind == 2) {
                    int box = draw(s.boxes());
                    s.weight[box] = Math.max(1, s.weight[box] - draw(10) - 1);
                } else if (kind == 3) {
                    int box = draw(s.boxes());
                    s.weight[box] = Math.min(99, s.weight[box] + draw(10) + 1);
                }
            }
            s.dayGoesBy();
            falls += s.fell.size();
        }
        int borne = 0;
        for (int box = 0; box < s.boxes(); box++) {
            borne += s.borne(box) ? 1 : 0;
        }
        return new int[] {falls, s.weightOfAll(), borne}[what];
    }

    public int idle(int what) {
        need(what == 0 || what == 1);
        int best = NONE;
        for (int b : now.crewOf(NONE)) {
            if (best == NONE || size(b, what) > size(best, what)) {
                best = b;
            }
        }
        return best;
    }

    private int size(int b, int what) {
        return what == 0 ? now.might(b) : ground.bearers.get(b)[1];
    }

    public int nearest(int town) {
        needTown(town);
        int best = NONE;
        for (int box = 0; box < now.boxes(); box++) {
            int d = way(now.town(box), town, 0);
            if (d != NONE && (best == NONE || d < way(now.town(best), town, 0))) {
                best = box;
            }
        }
        return best;
    }

    public int ahead(int box, int town) {
        needBox(box);
        needTown(town);
        List<Integer> route = ground.routes.get(box);
        for (int k = 0; k < 6; k++) {
            if (route.get((now.place[box] + k) % route.size()) == town) {
                return k;
            }
        }
        return NONE;
    }

    public int alone(int box) {
        needBox(box);
        int bits = 0;
        for (int b = 0; b < now.bearers(); b++) {
            bits |= now.borneBy(box, List.of(b)) ? 1 << b : 0;
        }
        return bits;
    }

    public int weariest(int days) {
        allow(days >= 0 && days <= 40);
        World s = now.after(days);
        int best = NONE;
        for (int b = 0; b < s.bearers(); b++) {
            if (best == NONE || s.tired[b] > s.tired[best]) {
                best = b;
            }
        }
        return best;
    }

    public int onRoutes(int town) {
        needTown(town);
        int bits = 0;
        for (int box = 0; box < now.boxes(); box++) {
            bits |= ground.routes.get(box).contains(town) ? 1 << box : 0;
        }
        return bits;
    }

    public int reach(int town) {
        needTown(town);
        int bits = 0;
        for (int other = 0; other < ground.towns; other++) {
            bits |= way(town, other, 1) != NONE ? 1 << other : 0;
        }
        return bits;
    }

    public int total(int days) {
        allow(days >= 0 && days <= 40);
        return now.after(days).weightOfAll();
    }

    public void image() {
        imageNow = now.copy();
        imageActs = new ArrayDeque<>();
        for (World s : acts) {
            imageActs.addLast(s.copy());
        }
        imageSeen = new ArrayList<>(seen);
    }

    public boolean restore() {
        if (imageNow == null) {
            return false;
        }
        now = imageNow.copy();
        acts = new ArrayDeque<>();
        for (World s : imageActs) {
            acts.addLast(s.copy());
        }
        seen = new ArrayList<>(imageSeen);
        return true;
    }

    static final class Parser {
        private final List<Token> tokens = new ArrayList<>();
        private int at = 0;
        private final Ground g = new Ground();
        private boolean towns = false;
        private boolean named = false;

        Parser(String text) {
            java.util.regex.Matcher m = java.util.regex.Pattern.compile("[a-z]+|[0-9]+|[ \n]+|(?s:.)").matcher(text);
            while (m.find()) {
                if (!m.group().isBlank() || !m.group().matches("[ \n]+")) {
                    tokens.add(new Token(m.group(), m.start()));
                }
            }
            tokens.add(new Token("", text.length()));
        }

        private Token peek() {
            return tokens.get(at);
        }

        private boolean is(String text) {
            return peek().text.equals(text);
        }

        private void need(boolean right, int code) throws Fault {
            if (!right) {
                throw new Fault(code, peek().place);
            }
        }

        private void take(String text) throws Fault {
            need(is(text), 1);
            at++;
        }

        private int number(int least, int most) throws Fault {
            need(peek().isNumber(), 1);
            need(peek().text.length() <= 4, 2);
            int n = Integer.parseInt(peek().text);
            need(n >= least && n <= most, 2);
            at++;
            return n;
        }

        private int name(int many) throws Fault {
            need(peek().isNumber(), 1);
            need(peek().text.length() <= 4, 2);
            need(Integer.parseInt(peek().text) < many, 3);
            return Integer.parseInt(tokens.get(at++).text);
        }

        Ground whole() throws Fault {
            while (!is("")) {
                line();
                take(";");
            }
            return g;
        }

        private void line() throws Fault {
            switch (peek().text) {
                case "towns" -> {
                    need(!named, 4);
                    need(!towns, 5);
                    towns = true;
                    at++;
                    g.towns = number(2, 8);
                }
                case "road" -> {
                    need(g.roads.size() < 14, 2);
                    at++;
                    named = true;
                    int a = name(g.towns);
                    int b = name(g.towns);
                    at--;
                    need(a != b, 4);
                    for (int[] road : g.roads) {
                        need(!(road[0] == a && road[1] == b || road[1] == a && road[0] == b), 4);
                    }
                    at++;
                    g.roads.add(new int[] {a, b, number(0, 9)});
                }
                case "box" -> {
                    need(g.weights.size() < 6, 2);
                    at++;
                    named = true;
                    int w = number(1, 99);
                    List<Integer> route = new ArrayList<>();
                    route.add(name(g.towns));
                    while (peek().isNumber()) {
                        need(route.size() < 6, 2);
                        route.add(name(g.towns));
                    }
                    g.weights.add(w);
                    g.routes.add(route);
                }
                case "bearer" -> {
                    need(g.bearers.size() < 8, 2);
                    at++;
                    int s = number(1, 40);
                    int h = number(1, 9);
                    int under = NONE;
                    if (is("under")) {
                        at++;
                        under = name(g.weights.size());
                    }
                    g.bearers.add(new int[] {s, h, under});
                }
                case "talk" -> {
                    need(g.talk == null, 5);
                    at++;
                    g.talk = expr(0);
                }
                case "falls" -> {
                    need(g.falls == null, 5);
                    at++;
                    g.falls = expr(0);
                }
                default -> need(false, 1);
            }
        }

        private Expr expr(int around) throws Fault {
            if (around == 6 && (peek().isNumber() || peek().isWord() || is("("))) {
                need(false, 2);
            }
            Expr left = and(around);
            while (is("or")) {
                at++;
                Expr a = left;
                Expr b = and(around);
                left = (s, x) -> a.of(s, x) != 0 | b.of(s, x) != 0 ? 1 : 0;
            }
            return left;
        }

        private Expr and(int around) throws Fault {
            Expr left = not(around, 0);
            while (is("and")) {
                at++;
                Expr a = left;
                Expr b = not(around, 0);
                left = (s, x) -> a.of(s, x) != 0 & b.of(s, x) != 0 ? 1 : 0;
            }
            return left;
        }

        private Expr not(int around, int nots) throws Fault {
            if (is("not")) {
                need(nots < 6, 2);
                at++;
                Expr e = not(around, nots + 1);
                return (s, x) -> e.of(s, x) == 0 ? 1 : 0;
            }
            Expr a = sum(around);
            if (is("<") || is("=")) {
                boolean less = is("<");
                at++;
                Expr b = sum(around);
                return (s, x) -> (less ? a.of(s, x) < b.of(s, x) : a.of(s, x) == b.of(s, x)) ? 1 : 0;
            }
            return a;
        }

        private Expr sum(int around) throws Fault {
            Expr left = product(around);
            while (is("+") || is("-")) {
                int sign = is("+") ? 1 : -1;
                at++;
                Expr a = left;
                Expr b = product(around);
                left = (s, x) -> a.of(s, x) + sign * b.of(s, x);
            }
            return left;
        }

        private Expr product(int around) throws Fault {
            Expr left = part(around);
            while (is("*") || is("/")) {
                boolean times = is("*");
                at++;
                Expr a = left;
                Expr b = part(around);
                left = (s, x) -> {
                    int p = a.of(s, x);
                    int q = b.of(s, x);
                    return times ? p * q : q == 0 ? 0 : (int) ((long) p / q);
                };
            }
            return left;
        }

        private Expr part(int around) throws Fault {
            if (is("(")) {
                at++;
                Expr e = expr(around + 1);
                take(")");
                return e;
            }
            if (peek().isNumber()) {
                int n = number(0, 9999);
                return (s, x) -> n;
            }
            need(peek().isWord(), 1);
            Expr value = value(peek().text);
            need(value != null, 3);
            at++;
            return value;
        }

        private static Expr value(String word) {
            return switch (word) {
                case "weight" -> (s, x) -> s.weight[x];
                case "hands" -> (s, x) -> s.crewOf(x).size();
                case "might" -> (s, x) -> s.mightOf(s.crewOf(x));
                case "lean" -> (s, x) -> s.leanOf(s.crewOf(x));
                case "borne" -> (s, x) -> s.borne(x) ? 1 : 0;
                case "town" -> World::town;
                case "day" -> (s, x) -> s.day;
                default -> null;
            };
        }
    }
}
