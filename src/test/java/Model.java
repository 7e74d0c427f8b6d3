import java.math.BigInteger;
import java.util.ArrayDeque;
import java.util.ArrayList;
import java.util.Arrays;
import java.util.Collections;
import java.util.Comparator;
import java.util.Deque;
import java.util.HashSet;
import java.util.LinkedHashMap;
import java.util.List;
import java.util.Map;
import java.util.Set;
import java.util.function.IntToLongFunction;
import java.util.regex.Matcher;
import java.util.regex.Pattern;

/**
 * The document told a second time, slowly and with the Java library: nothing is kept between calls, prices are
 * searched one by one, undo goes back to whole copies. Random runs compare it with the class.
 */
public final class Model {
    static final int NONE = -1, BAD = -2, FULL = -3;

    static final class Project {
        String name;
        int cost;
        Set<Integer> districts = new HashSet<>();
    }

    static final class Voter {
        int weight;
        Set<Integer> districts = new HashSet<>();
        Set<Integer> approves = new HashSet<>();
    }

    static final class Ballot {
        List<String> districtNames = new ArrayList<>();
        List<Integer> budgets = new ArrayList<>();
        List<Project> projects = new ArrayList<>();
        List<Voter> voters = new ArrayList<>();
        int[] settings = {0, 0, 10, 0};

        Ballot copy() {
            Ballot c = new Ballot();
            c.districtNames.addAll(districtNames);
            c.budgets.addAll(budgets);
            for (Project p : projects) {
                Project q = new Project();
                q.name = p.name;
                q.cost = p.cost;
                q.districts.addAll(p.districts);
                c.projects.add(q);
            }
            for (Voter v : voters) {
                Voter w = new Voter();
                w.weight = v.weight;
                w.districts.addAll(v.districts);
                w.approves.addAll(v.approves);
                c.voters.add(w);
            }
            c.settings = settings.clone();
            return c;
        }

        boolean supports(int v, int p) {
            Voter voter = voters.get(v);
            return voter.approves.contains(p)
                    && !Collections.disjoint(voter.districts, projects.get(p).districts);
        }

        long votes(int p) {
            long sum = 0;
            for (int v = 0; v < voters.size(); v++) {
                sum += supports(v, p) ? voters.get(v).weight : 0;
            }
            return sum;
        }

        long worth(int p) {
            return settings[0] == 0 ? 1 : projects.get(p).cost;
        }

        long purse(int v, int d) {
            if (!voters.get(v).districts.contains(d)) {
                return 0;
            }
            long all = 0;
            for (Voter w : voters) {
                all += w.districts.contains(d) ? w.weight : 0;
            }
            return (long) budgets.get(d) * voters.get(v).weight / all;
        }
    }

    /** What equal shares lead to. */
    static final class Result {
        List<Integer> inRounds = new ArrayList<>();
        List<Integer> all = new ArrayList<>();
        List<Long> prices = new ArrayList<>();
        List<long[][]> pursesBefore = new ArrayList<>();
        Map<Integer, long[]> paid = new LinkedHashMap<>();
        Map<Integer, long[]> from = new LinkedHashMap<>();
        int raises;
        Set<Integer> unraised = new HashSet<>();

        long[][] pursesBehind() {
            return pursesBefore.get(inRounds.size());
        }

        long takenFrom(int d) {
            long sum = 0;
            for (long[] parts : from.values()) {
                sum += parts[d];
            }
            return sum;
        }
    }

    private Ballot b = new Ballot();
    private final List<Integer> buffer = new ArrayList<>();
    private final Deque<Ballot> past = new ArrayDeque<>();
    private int errorPosition = NONE;

    // ---- the rules

    static long means(Ballot b, long[][] purses, int v, int p) {
        long sum = 0;
        for (int d : b.projects.get(p).districts) {
            sum += b.voters.get(v).districts.contains(d) ? purses[v][d] : 0;
        }
        return sum;
    }

    static long collected(Ballot b, long[][] purses, int p, long q) {
        long sum = 0;
        for (int v = 0; v < b.voters.size(); v++) {
            if (b.supports(v, p)) {
                sum += Math.min(means(b, purses, v, p), q * b.voters.get(v).weight);
            }
        }
        return sum;
    }

    static long price(Ballot b, long[][] purses, int p) {
        int cost = b.projects.get(p).cost;
        if (collected(b, purses, p, 1000000) < cost) {
            return NONE;
        }
        if (cost <= 60) {
            for (long q = 0; ; q++) {
                if (collected(b, purses, p, q) >= cost) {
                    return q;
                }
            }
        }
        long low = 0;
        long high = 1000000;
        while (high - low > 1) {
            long middle = (low + high) / 2;
            if (collected(b, purses, p, middle) >= cost) {
                high = middle;
            } else {
                low = middle;
            }
        }
        return high;
    }

    static long[][] deepCopy(long[][] rows) {
        long[][] copy = new long[rows.length][];
        for (int i = 0; i < rows.length; i++) {
            copy[i] = rows[i].clone();
        }
        return copy;
    }

    static Result rounds(Ballot b, int raise) {
        Result r = new Result();
        long[][] purses = new long[b.voters.size()][b.budgets.size()];
        for (int v = 0; v < purses.length; v++) {
            for (int d : b.voters.get(v).districts) {
                purses[v][d] = b.purse(v, d) + raise;
            }
        }
        while (true) {
            r.pursesBefore.add(deepCopy(purses));
            List<Integer> open = new ArrayList<>();
            Map<Integer, Long> price = new LinkedHashMap<>();
            for (int p = 0; p < b.projects.size(); p++) {
                long q = r.inRounds.contains(p) ? NONE : price(b, purses, p);
                if (q != NONE) {
                    open.add(p);
                    price.put(p, q);
                }
            }
            if (open.isEmpty()) {
                return r;
            }
            Comparator<Integer> order = (x, y) -> b.settings[0] == 0
                    ? Long.compare(price.get(x), price.get(y))
                    : BigInteger.valueOf(price.get(x)).multiply(BigInteger.valueOf(b.projects.get(y).cost))
                            .compareTo(BigInteger.valueOf(price.get(y)).multiply(BigInteger.valueOf(b.projects.get(x).cost)));
            order = order.thenComparing((x, y) -> Long.compare(b.votes(y), b.votes(x))).thenComparing((x, y) -> x - y);
            open.sort(order);
            int p = open.get(0);
            charge(b, purses, p, price.get(p), r);
        }
    }

    static void charge(Ballot b, long[][] purses, int p, long q, Result r) {
        long excess = collected(b, purses, p, q) - b.projects.get(p).cost;
        long[] paid = new long[b.voters.size()];
        long[] from = new long[b.budgets.size()];
        for (int v = paid.length - 1; v >= 0; v--) {
            if (!b.supports(v, p)) {
                continue;
            }
            long m = means(b, purses, v, p);
            int w = b.voters.get(v).weight;
            paid[v] = Math.min(m, q * w);
            while (excess > 0 && paid[v] > Math.min(m, (q - 1) * w)) {
                paid[v]--;
                excess--;
            }
        }
        for (int v = 0; v < paid.length; v++) {
            long due = paid[v];
            for (int d = 0; d < from.length; d++) {
                while (due > 0 && b.projects.get(p).districts.contains(d) && b.voters.get(v).districts.contains(d) && purses[v][d] > 0) {
                    long coin = Math.min(due, purses[v][d]);
                    purses[v][d] -= coin;
                    from[d] += coin;
                    due -= coin;
                }
            }
            if (due != 0) {
                throw new IllegalStateException("the model does not pay");
            }
        }
        r.inRounds.add(p);
        r.prices.add(q);
        r.paid.put(p, paid);
        r.from.put(p, from);
    }

    static Set<Integer> withVotes(Ballot b) {
        Set<Integer> set = new HashSet<>();
        for (int p = 0; p < b.projects.size(); p++) {
            if (b.votes(p) > 0) {
                set.add(p);
            }
        }
        return set;
    }

    static List<Integer> greedyOrder(Ballot b) {
        List<Integer> order = new ArrayList<>(withVotes(b));
        Comparator<Integer> first = b.settings[3] == 0
                ? (x, y) -> Long.compare(b.votes(y), b.votes(x))
                : (x, y) -> Long.compare(b.votes(y) * b.projects.get(x).cost, b.votes(x) * b.projects.get(y).cost);
        first = first.thenComparing((x, y) -> b.projects.get(x).cost - b.projects.get(y).cost).thenComparing((x, y) -> x - y);
        order.sort(first);
        return order;
    }

    static void greed(Ballot b, Result r) {
        long[] left = new long[b.budgets.size()];
        for (int d = 0; d < left.length; d++) {
            left[d] = b.budgets.get(d) - r.takenFrom(d);
        }
        for (int p : greedyOrder(b)) {
            if (r.inRounds.contains(p)) {
                continue;
            }
            long has = 0;
            for (int d : b.projects.get(p).districts) {
                has += left[d];
            }
            long due = b.projects.get(p).cost;
            if (has < due) {
                continue;
            }
            long[] from = new long[left.length];
            for (int d = 0; d < left.length; d++) {
                if (b.projects.get(p).districts.contains(d)) {
                    from[d] = Math.min(left[d], due);
                    left[d] -= from[d];
                    due -= from[d];
                }
            }
            r.from.put(p, from);
            r.all.add(p);
        }
    }

    static Result equal(Ballot b) {
        Result r = rounds(b, 0);
        Set<Integer> unraised = new HashSet<>(r.inRounds);
        if (b.settings[1] == 2 && !unraised.containsAll(withVotes(b))) {
            for (int k = 1; k <= 60; k++) {
                Result next = rounds(b, k * b.settings[2]);
                boolean over = false;
                for (int d = 0; d < b.budgets.size(); d++) {
                    over |= next.takenFrom(d) > b.budgets.get(d);
                }
                if (over) {
                    break;
                }
                r = next;
                r.raises = k;
                if (r.inRounds.containsAll(withVotes(b))) {
                    break;
                }
            }
        }
        r.unraised = unraised;
        r.all.addAll(r.inRounds);
        if (b.settings[1] == 1) {
            greed(b, r);
        }
        return r;
    }

    static Result greedy(Ballot b) {
        Result r = new Result();
        greed(b, r);
        return r;
    }

    static boolean payable(Ballot b, int set) {
        for (int area = 0; area < 1 << b.budgets.size(); area++) {
            long costs = 0;
            long budgets = 0;
            for (int p = 0; p < b.projects.size(); p++) {
                boolean within = true;
                for (int d : b.projects.get(p).districts) {
                    within &= (area & 1 << d) != 0;
                }
                costs += (set & 1 << p) != 0 && within ? b.projects.get(p).cost : 0;
            }
            for (int d = 0; d < b.budgets.size(); d++) {
                budgets += (area & 1 << d) != 0 ? b.budgets.get(d) : 0;
            }
            if (costs > budgets) {
                return false;
            }
        }
        return true;
    }

    static long sum(Ballot b, int set, IntToLongFunction of) {
        long sum = 0;
        for (int p = 0; p < b.projects.size(); p++) {
            sum += (set & 1 << p) != 0 ? of.applyAsLong(p) : 0;
        }
        return sum;
    }

    static long cost(Ballot b, int set) {
        return sum(b, set, p -> b.projects.get(p).cost);
    }

    static long value(Ballot b, int set) {
        return sum(b, set, p -> b.votes(p) * b.worth(p));
    }

    /** From the highest set down, so that of equal ones the lowest is the last to be taken. */
    static int best(Ballot b, int barred) {
        long[] values = new long[1 << b.projects.size()];
        for (int p = 0; p < b.projects.size(); p++) {
            long value = b.votes(p) * b.worth(p);
            for (int set = 0; set < values.length; set++) {
                values[set] += (set & 1 << p) != 0 ? value : 0;
            }
        }
        int found = 0;
        for (int set = values.length - 1; set >= 0; set--) {
            boolean asGood = values[set] > values[found] || values[set] == values[found] && cost(b, set) <= cost(b, found);
            if ((set & barred) == 0 && asGood && payable(b, set)) {
                found = set;
            }
        }
        return found;
    }

    static int bits(Iterable<Integer> elements) {
        int set = 0;
        for (int e : elements) {
            set |= 1 << e;
        }
        return set;
    }

    private List<Integer> order(int rule) {
        if (rule == 0) {
            return equal(b).all;
        }
        if (rule == 1) {
            return greedy(b).all;
        }
        List<Integer> list = new ArrayList<>();
        int set = best(b, 0);
        for (int p = 0; p < b.projects.size(); p++) {
            if ((set & 1 << p) != 0) {
                list.add(p);
            }
        }
        return list;
    }

    private int set(int rule) {
        return bits(order(rule));
    }

    private static boolean bad(int rule) {
        return rule < 0 || rule > 2;
    }

    private void district(int d) {
        if (d < 0 || d >= b.budgets.size()) {
            throw new IndexOutOfBoundsException();
        }
    }

    private void project(int p) {
        if (p < 0 || p >= b.projects.size()) {
            throw new IndexOutOfBoundsException();
        }
    }

    private void voter(int v) {
        if (v < 0 || v >= b.voters.size()) {
            throw new IndexOutOfBoundsException();
        }
    }

    private static boolean outside(int index, List<?> list) {
        return index < 0 || index >= list.size();
    }

    private long joy(int set, int v) {
        return sum(b, set, p -> b.supports(v, p) ? b.worth(p) : 0);
    }

    private long claim(int set, int p) {
        if ((set & 1 << p) != 0) {
            return 0;
        }
        long sum = 0;
        for (int v = 0; v < b.voters.size(); v++) {
            boolean served = false;
            for (int q = 0; q < b.projects.size(); q++) {
                served |= (set & 1 << q) != 0 && b.supports(v, q);
            }
            if (b.supports(v, p) && !served) {
                for (int d : b.projects.get(p).districts) {
                    sum += b.purse(v, d);
                }
            }
        }
        return sum;
    }

    // ---- the face

    public int feed(int a, int b, int c, int d, int e) {
        if (buffer.size() + 20 > 1200) {
            return FULL;
        }
        for (int word : new int[] {a, b, c, d, e}) {
            buffer.add(word >>> 24);
            buffer.add(word >>> 16 & 255);
            buffer.add(word >>> 8 & 255);
            buffer.add(word & 255);
        }
        return buffer.size();
    }

    public int load(int length) {
        if (length < 0 || length > buffer.size()) {
            return BAD;
        }
        StringBuilder signs = new StringBuilder();
        for (int i = 0; i < length; i++) {
            signs.append((char) (int) buffer.get(i));
        }
        buffer.clear();
        Parse parse = new Parse(signs.toString());
        try {
            parse.text();
        } catch (Wrong wrong) {
            errorPosition = wrong.position;
            return wrong.code;
        }
        errorPosition = NONE;
        b = parse.b;
        past.clear();
        return parse.statements;
    }

    @SuppressWarnings("serial")
    static final class Wrong extends RuntimeException {
        final int code;
        final int position;

        Wrong(int code, int position) {
            this.code = code;
            this.position = position;
        }
    }

    static final class Parse {
        static final List<String> SETTINGS = List.of("worth", "completion", "step", "order");
        static final Set<String> RESERVED = Set.of("district", "project", "voter", "in", "for", "set", "worth", "completion", "step", "order");
        final List<String> tokens = new ArrayList<>();
        final List<Integer> places = new ArrayList<>();
        final Ballot b = new Ballot();
        final Set<String> given = new HashSet<>();
        int at;
        int statements;

        Parse(String text) {
            Matcher m = Pattern.compile("[a-z]+|[0-9]+|[^ \n]", Pattern.DOTALL).matcher(text);
            while (m.find()) {
                tokens.add(m.group());
                places.add(m.start());
            }
            tokens.add("");
            places.add(text.length());
        }

        Wrong wrong(int code) {
            return new Wrong(code, places.get(at));
        }

        String token() {
            return tokens.get(at);
        }

        void text() {
            while (!token().isEmpty()) {
                switch (token()) {
                    case "district" -> district();
                    case "project" -> project();
                    case "voter" -> voter();
                    case "set" -> setting();
                    default -> throw wrong(-11);
                }
                expect(";");
                statements++;
            }
        }

        void expect(String token) {
            if (!token().equals(token)) {
                throw wrong(-11);
            }
            at++;
        }

        boolean isName() {
            return token().matches("[a-z]{1,6}") && !RESERVED.contains(token());
        }

        String freshName() {
            if (!isName()) {
                throw wrong(-11);
            }
            for (Project p : b.projects) {
                if (p.name.equals(token())) {
                    throw wrong(-14);
                }
            }
            if (b.districtNames.contains(token())) {
                throw wrong(-14);
            }
            return tokens.get(at++);
        }

        int integer(int low, int high) {
            if (!token().matches("[0-9]+")) {
                throw wrong(-11);
            }
            BigInteger value = new BigInteger(token());
            if (value.compareTo(BigInteger.valueOf(low)) < 0 || value.compareTo(BigInteger.valueOf(high)) > 0) {
                throw wrong(-12);
            }
            at++;
            return value.intValue();
        }

        Set<Integer> names(List<String> known) {
            Set<Integer> set = new HashSet<>();
            if (!isName()) {
                throw wrong(-11);
            }
            while (isName()) {
                int index = known.indexOf(token());
                if (index < 0) {
                    throw wrong(-13);
                }
                if (!set.add(index)) {
                    throw wrong(-14);
                }
                at++;
            }
            return set;
        }

        void district() {
            if (b.budgets.size() == 4) {
                throw wrong(-15);
            }
            at++;
            String name = freshName();
            int budget = integer(0, 100000);
            b.districtNames.add(name);
            b.budgets.add(budget);
        }

        void project() {
            if (b.projects.size() == 12) {
                throw wrong(-15);
            }
            at++;
            Project p = new Project();
            p.name = freshName();
            p.cost = integer(1, 100000);
            p.districts = names(b.districtNames);
            b.projects.add(p);
        }

        void voter() {
            if (b.voters.size() == 24) {
                throw wrong(-15);
            }
            at++;
            Voter v = new Voter();
            v.weight = integer(1, 9);
            expect("in");
            v.districts = names(b.districtNames);
            if (token().equals("for")) {
                at++;
                List<String> known = new ArrayList<>();
                for (Project p : b.projects) {
                    known.add(p.name);
                }
                v.approves = names(known);
            }
            b.voters.add(v);
        }

        void setting() {
            at++;
            int setting = SETTINGS.indexOf(token());
            if (setting < 0) {
                throw wrong(-11);
            }
            if (!given.add(token())) {
                throw wrong(-14);
            }
            at++;
            b.settings[setting] = integer(setting == 2 ? 1 : 0, new int[] {1, 2, 1000, 1}[setting]);
        }
    }

    public int errorPosition() {
        return errorPosition;
    }

    public int districtCount() {
        return b.budgets.size();
    }

    public int projectCount() {
        return b.projects.size();
    }

    public int voterCount() {
        return b.voters.size();
    }

    public int undoCount() {
        return past.size();
    }

    private static int named(int letters, List<String> names) {
        for (int i = 0; i < names.size(); i++) {
            StringBuilder groups = new StringBuilder();
            for (int k = 0; k < 6; k++) {
                int group = letters >> (25 - 5 * k) & 31;
                groups.append(group == 0 ? ' ' : (char) ('a' + group - 1));
            }
            if (letters >>> 30 == 0 && groups.toString().equals((names.get(i) + "      ").substring(0, 6))) {
                return i;
            }
        }
        return NONE;
    }

    public int districtNamed(int letters) {
        return named(letters, b.districtNames);
    }

    public int projectNamed(int letters) {
        List<String> names = new ArrayList<>();
        for (Project p : b.projects) {
            names.add(p.name);
        }
        return named(letters, names);
    }

    public int budgetOf(int district) {
        district(district);
        return b.budgets.get(district);
    }

    public int costOf(int project) {
        project(project);
        return b.projects.get(project).cost;
    }

    public int districtsOf(int project) {
        project(project);
        return bits(b.projects.get(project).districts);
    }

    public int memberships(int voter) {
        voter(voter);
        return bits(b.voters.get(voter).districts);
    }

    public int approvals(int voter) {
        voter(voter);
        return bits(b.voters.get(voter).approves);
    }

    public int weightOf(int voter) {
        voter(voter);
        return b.voters.get(voter).weight;
    }

    public int getSetting(int setting) {
        return setting < 0 || setting > 3 ? BAD : b.settings[setting];
    }

    public int supporters(int project) {
        project(project);
        int set = 0;
        for (int v = 0; v < b.voters.size(); v++) {
            set |= b.supports(v, project) ? 1 << v : 0;
        }
        return set;
    }

    public int votesFor(int project) {
        project(project);
        return (int) b.votes(project);
    }

    public int purse(int voter, int district) {
        voter(voter);
        district(district);
        return (int) b.purse(voter, district);
    }

    public int firstPrice(int project) {
        project(project);
        return (int) price(b, rounds(b, 0).pursesBefore.get(0), project);
    }

    public int funded(int rule) {
        return bad(rule) ? BAD : set(rule);
    }

    public int fundedAt(int rule, int k) {
        if (bad(rule)) {
            return BAD;
        }
        List<Integer> order = order(rule);
        return k < 0 || k >= order.size() ? NONE : order.get(k);
    }

    public int priceOf(int project) {
        project(project);
        Result r = equal(b);
        int round = r.inRounds.indexOf(project);
        return round < 0 ? NONE : (int) (long) r.prices.get(round);
    }

    public int paidBy(int project, int voter) {
        project(project);
        voter(voter);
        long[] paid = equal(b).paid.get(project);
        return paid == null ? 0 : (int) paid[voter];
    }

    public int paidFrom(int rule, int project, int district) {
        project(project);
        district(district);
        if (rule != 0 && rule != 1) {
            return BAD;
        }
        long[] from = (rule == 0 ? equal(b) : greedy(b)).from.get(project);
        return from == null ? 0 : (int) from[district];
    }

    public int leftOf(int rule, int district) {
        district(district);
        if (rule != 0 && rule != 1) {
            return BAD;
        }
        return (int) (b.budgets.get(district) - (rule == 0 ? equal(b) : greedy(b)).takenFrom(district));
    }

    public int purseLeft(int voter, int district) {
        voter(voter);
        district(district);
        return (int) equal(b).pursesBehind()[voter][district];
    }

    public int meansLeft(int project) {
        project(project);
        long[][] purses = equal(b).pursesBehind();
        return (int) collected(b, purses, project, 1000000);
    }

    public int raises() {
        return equal(b).raises;
    }

    public int completed() {
        Result r = equal(b);
        Set<Integer> added = new HashSet<>(r.all);
        added.removeAll(r.unraised);
        return added.size();
    }

    public int totalCost(int rule) {
        return bad(rule) ? BAD : (int) cost(b, set(rule));
    }

    public long welfare(int rule) {
        return bad(rule) ? BAD : value(b, set(rule));
    }

    public int satisfaction(int rule, int voter) {
        voter(voter);
        return bad(rule) ? BAD : (int) joy(set(rule), voter);
    }

    private List<Integer> ranking(int rule) {
        int set = set(rule);
        List<Integer> voters = new ArrayList<>();
        for (int v = 0; v < b.voters.size(); v++) {
            voters.add(v);
        }
        voters.sort((v, w) -> Long.compare(joy(set, w), joy(set, v)));
        return voters;
    }

    public int worstOff(int rule) {
        if (bad(rule)) {
            return BAD;
        }
        int set = set(rule);
        List<Integer> ranking = ranking(rule);
        int found = NONE;
        for (int v : ranking) {
            found = joy(set, v) == joy(set, ranking.get(ranking.size() - 1)) && found == NONE ? v : found;
        }
        return found;
    }

    public int leftOut(int rule) {
        if (bad(rule)) {
            return BAD;
        }
        int set = set(rule);
        int out = 0;
        for (int v = 0; v < b.voters.size(); v++) {
            int own = v;
            out |= sum(b, set, p -> b.supports(own, p) ? 1 : 0) == 0 ? 1 << v : 0;
        }
        return out;
    }

    public int claimOf(int rule, int project) {
        project(project);
        return bad(rule) ? BAD : (int) claim(set(rule), project);
    }

    public int unjust(int rule) {
        if (bad(rule)) {
            return BAD;
        }
        int set = set(rule);
        for (int p = 0; p < b.projects.size(); p++) {
            if ((set & 1 << p) == 0 && claim(set, p) >= b.projects.get(p).cost) {
                return p;
            }
        }
        return NONE;
    }

    public int changedWithout(int voter) {
        voter(voter);
        Ballot c = b.copy();
        c.voters.get(voter).approves.clear();
        return bits(equal(b).all) ^ bits(equal(c).all);
    }

    public int greedyLimit(int project) {
        project(project);
        Ballot c = b.copy();
        long rich = 0;
        for (int d : b.projects.get(project).districts) {
            rich += b.budgets.get(d);
        }
        for (int cost = (int) Math.min(rich, 100000); cost > 0; cost--) {
            c.projects.get(project).cost = cost;
            if (greedy(c).all.contains(project)) {
                return cost;
            }
        }
        return NONE;
    }

    public boolean canBePaid(int projects) {
        return projects >= 0 && projects < 1 << b.projects.size() && payable(b, projects);
    }

    public int common(int one, int other) {
        return bad(one) || bad(other) ? BAD : set(one) & set(other);
    }

    public int spread(int rule) {
        if (bad(rule)) {
            return BAD;
        }
        int set = set(rule);
        List<Integer> ranking = ranking(rule);
        return ranking.isEmpty() ? 0 : (int) (joy(set, ranking.get(0)) - joy(set, ranking.get(ranking.size() - 1)));
    }

    public long loss(int rule) {
        return bad(rule) ? BAD : value(b, set(2)) - value(b, set(rule));
    }

    public long bestWithout(int project) {
        project(project);
        return value(b, best(b, 1 << project));
    }

    public int endowment(int voter) {
        voter(voter);
        long sum = 0;
        for (int d = 0; d < b.budgets.size(); d++) {
            sum += b.purse(voter, d);
        }
        return (int) sum;
    }

    public int spentBy(int voter) {
        voter(voter);
        long sum = 0;
        for (long[] paid : equal(b).paid.values()) {
            sum += paid[voter];
        }
        return (int) sum;
    }

    public int payers(int project) {
        project(project);
        long[] paid = equal(b).paid.getOrDefault(project, new long[0]);
        int set = 0;
        for (int v = 0; v < paid.length; v++) {
            set |= paid[v] > 0 ? 1 << v : 0;
        }
        return set;
    }

    public int roundOf(int project) {
        project(project);
        return equal(b).inRounds.indexOf(project);
    }

    public int commonSupport(int one, int other) {
        project(one);
        project(other);
        int sum = 0;
        for (int v = 0; v < b.voters.size(); v++) {
            sum += b.supports(v, one) && b.supports(v, other) ? 1 : 0;
        }
        return sum;
    }

    public int priceIn(int project, int round) {
        project(project);
        Result r = equal(b);
        if (round < 0 || round > r.inRounds.size()) {
            return BAD;
        }
        boolean before = r.inRounds.subList(0, round).contains(project);
        return before ? NONE : (int) price(b, r.pursesBefore.get(round), project);
    }

    public int fundedWithBudget(int district, int budget) {
        district(district);
        if (budget < 0 || budget > 100000) {
            return BAD;
        }
        Ballot c = b.copy();
        c.budgets.set(district, budget);
        return bits(equal(c).all);
    }

    public int fundedWithCost(int project, int cost) {
        project(project);
        if (cost < 1 || cost > 100000) {
            return BAD;
        }
        Ballot c = b.copy();
        c.projects.get(project).cost = cost;
        return bits(equal(c).all);
    }

    public int fundedWithout(int project) {
        project(project);
        Ballot c = b.copy();
        for (Voter v : c.voters) {
            v.approves.remove(project);
        }
        return bits(equal(c).all);
    }

    public int cheapestSet(int welfare) {
        if (welfare < 0) {
            return BAD;
        }
        int found = NONE;
        for (int set = (1 << b.projects.size()) - 1; set >= 0; set--) {
            if (value(b, set) >= welfare && (found == NONE || cost(b, set) <= cost(b, found)) && payable(b, set)) {
                found = set;
            }
        }
        return found;
    }

    public int districtWelfare(int rule, int district) {
        district(district);
        if (bad(rule)) {
            return BAD;
        }
        int set = set(rule);
        long sum = 0;
        for (int v = 0; v < b.voters.size(); v++) {
            sum += b.voters.get(v).districts.contains(district) ? joy(set, v) : 0;
        }
        return (int) sum;
    }

    public int rankOf(int rule, int voter) {
        voter(voter);
        return bad(rule) ? BAD : ranking(rule).indexOf(voter);
    }

    public int richest() {
        long[][] purses = equal(b).pursesBehind();
        int found = NONE;
        for (int v = purses.length - 1; v >= 0; v--) {
            found = found == NONE || Arrays.stream(purses[v]).sum() >= Arrays.stream(purses[found]).sum() ? v : found;
        }
        return found;
    }

    private Ballot change() {
        past.addLast(b.copy());
        if (past.size() > 10) {
            past.removeFirst();
        }
        return b;
    }

    public int setBudget(int district, int budget) {
        if (outside(district, b.budgets)) {
            return NONE;
        }
        return budget < 0 || budget > 100000 ? BAD : change().budgets.set(district, budget);
    }

    public int setCost(int project, int cost) {
        if (outside(project, b.projects)) {
            return NONE;
        }
        if (cost < 1 || cost > 100000) {
            return BAD;
        }
        Project p = change().projects.get(project);
        int previous = p.cost;
        p.cost = cost;
        return previous;
    }

    public int setWeight(int voter, int weight) {
        if (outside(voter, b.voters)) {
            return NONE;
        }
        if (weight < 1 || weight > 9) {
            return BAD;
        }
        Voter v = change().voters.get(voter);
        int previous = v.weight;
        v.weight = weight;
        return previous;
    }

    private static void put(Set<Integer> set, int element, boolean in) {
        if (in) {
            set.add(element);
        } else {
            set.remove(element);
        }
    }

    public int setMember(int voter, int district, boolean member) {
        if (outside(voter, b.voters) || outside(district, b.budgets)) {
            return NONE;
        }
        put(change().voters.get(voter).districts, district, member);
        return memberships(voter);
    }

    public int setApproval(int voter, int project, boolean approved) {
        if (outside(voter, b.voters) || outside(project, b.projects)) {
            return NONE;
        }
        put(change().voters.get(voter).approves, project, approved);
        return votesFor(project);
    }

    public int setSetting(int setting, int value) {
        if (setting < 0 || setting > 3 || value < (setting == 2 ? 1 : 0) || value > new int[] {1, 2, 1000, 1}[setting]) {
            return BAD;
        }
        int previous = b.settings[setting];
        change().settings[setting] = value;
        return previous;
    }

    public int undo() {
        if (past.isEmpty()) {
            return NONE;
        }
        b = past.removeLast();
        return past.size();
    }
}
