import java.util.Arrays;

/** Participatory budgeting in overlapping districts. What each method promises is told in the document. */
public final class ParticipatoryBudget {
    public static final int EQUAL = 0, GREEDY = 1, BEST = 2;
    public static final int WORTH = 0, COMPLETION = 1, STEP = 2, ORDER = 3;
    public static final int NOT_FOUND = -1;
    public static final int BAD_VALUE = -2;
    public static final int FULL = -3;
    public static final int SYNTAX_ERROR = -11, RANGE_ERROR = -12, NAME_ERROR = -13, DUPLICATE_ERROR = -14, COUNT_ERROR = -15;

    private static final int MOST_DISTRICTS = 4, MOST_PROJECTS = 12, MOST_VOTERS = 24, SETTINGS = 4;
    private static final int MOST_MONEY = 100000, MOST_WEIGHT = 9, MOST_RAISES = 60, MOST_UNDONE = 10;
    private static final int MOST_BYTES = 1200, BYTES_A_FEED = 20, LETTERS = 6, BITS_A_LETTER = 5;
    private static final int[] FIRST_SETTINGS = {0, 0, 10, 0};
    private static final int[] LEAST_SETTINGS = {0, 0, 1, 0};
    private static final int[] MOST_SETTINGS = {1, 2, 1000, 1};

    private final Text text = new Text();
    private final Reader reader = new Reader();
    private final History history = new History();
    private final EqualShares equal = new EqualShares();
    private final EqualShares equalIf = new EqualShares();
    private final Greedy greedy = new Greedy();
    private final Greedy greedyIf = new Greedy();
    private final Optimum optimum = new Optimum();
    private Ballot ballot = new Ballot();
    private Ballot spare = new Ballot();
    private int errorAt = NOT_FOUND;
    private int bestSet;
    private boolean equalKnown, greedyKnown, bestKnown;

    public ParticipatoryBudget() {
    }

    // ---- the text

    public int feed(int a, int b, int c, int d, int e) {
        if (text.size + BYTES_A_FEED > MOST_BYTES) {
            return FULL;
        }
        text.append(a);
        text.append(b);
        text.append(c);
        text.append(d);
        text.append(e);
        return text.size;
    }

    public int load(int length) {
        if (length < 0 || length > text.size) {
            return BAD_VALUE;
        }
        text.open(length);
        int result = reader.read(text, spare);
        text.size = 0;
        if (result < 0) {
            errorAt = text.start;
            return result;
        }
        errorAt = NOT_FOUND;
        Ballot read = spare;
        spare = ballot;
        ballot = read;
        history.count = 0;
        settle();
        return result;
    }

    public int errorPosition() {
        return errorAt;
    }

    // ---- what the ballot says

    public int districtCount() {
        return ballot.districts;
    }

    public int projectCount() {
        return ballot.projects;
    }

    public int voterCount() {
        return ballot.voters;
    }

    public int undoCount() {
        return history.count;
    }

    public int districtNamed(int letters) {
        return place(ballot.districtNames, ballot.districts, letters);
    }

    public int projectNamed(int letters) {
        return place(ballot.projectNames, ballot.projects, letters);
    }

    public int budgetOf(int district) throws IndexOutOfBoundsException {
        checkIndex(district, ballot.districts);
        return ballot.budgets[district];
    }

    public int costOf(int project) throws IndexOutOfBoundsException {
        checkIndex(project, ballot.projects);
        return ballot.costs[project];
    }

    public int districtsOf(int project) throws IndexOutOfBoundsException {
        checkIndex(project, ballot.projects);
        return ballot.areas[project];
    }

    public int memberships(int voter) throws IndexOutOfBoundsException {
        checkIndex(voter, ballot.voters);
        return ballot.members[voter];
    }

    public int approvals(int voter) throws IndexOutOfBoundsException {
        checkIndex(voter, ballot.voters);
        return ballot.approved[voter];
    }

    public int weightOf(int voter) throws IndexOutOfBoundsException {
        checkIndex(voter, ballot.voters);
        return ballot.weights[voter];
    }

    public int getSetting(int setting) {
        return isIndex(setting, SETTINGS) ? ballot.settings[setting] : BAD_VALUE;
    }

    public int supporters(int project) throws IndexOutOfBoundsException {
        checkIndex(project, ballot.projects);
        return ballot.backers[project];
    }

    public int votesFor(int project) throws IndexOutOfBoundsException {
        checkIndex(project, ballot.projects);
        return ballot.votes[project];
    }

    public int commonSupport(int one, int other) throws IndexOutOfBoundsException {
        checkIndex(one, ballot.projects);
        checkIndex(other, ballot.projects);
        return Integer.bitCount(ballot.backers[one] & ballot.backers[other]);
    }

    public int purse(int voter, int district) throws IndexOutOfBoundsException {
        checkIndex(voter, ballot.voters);
        checkIndex(district, ballot.districts);
        return ballot.firstPurse(voter, district);
    }

    public int endowment(int voter) throws IndexOutOfBoundsException {
        checkIndex(voter, ballot.voters);
        return ballot.firstMeans(voter, ballot.members[voter]);
    }

    // ---- the rounds of equal shares

    public int firstPrice(int project) throws IndexOutOfBoundsException {
        checkIndex(project, ballot.projects);
        return equalNow().firstPrices[project];
    }

    public int priceOf(int project) throws IndexOutOfBoundsException {
        checkIndex(project, ballot.projects);
        Rounds rounds = equalNow().rounds;
        int round = rounds.whenFunded(project);
        return round < 0 ? NOT_FOUND : rounds.prices[project][round];
    }

    public int priceIn(int project, int round) throws IndexOutOfBoundsException {
        checkIndex(project, ballot.projects);
        Rounds rounds = equalNow().rounds;
        return round < 0 || round > rounds.count ? BAD_VALUE : rounds.prices[project][round];
    }

    public int roundOf(int project) throws IndexOutOfBoundsException {
        checkIndex(project, ballot.projects);
        return equalNow().rounds.whenFunded(project);
    }

    public int paidBy(int project, int voter) throws IndexOutOfBoundsException {
        checkIndex(project, ballot.projects);
        checkIndex(voter, ballot.voters);
        return equalNow().rounds.paid[project][voter];
    }

    public int spentBy(int voter) throws IndexOutOfBoundsException {
        checkIndex(voter, ballot.voters);
        Rounds rounds = equalNow().rounds;
        int sum = 0;
        for (int p = 0; p < ballot.projects; p++) {
            sum += rounds.paid[p][voter];
        }
        return sum;
    }

    public int payers(int project) throws IndexOutOfBoundsException {
        checkIndex(project, ballot.projects);
        Rounds rounds = equalNow().rounds;
        int set = 0;
        for (int v = 0; v < ballot.voters; v++) {
            if (rounds.paid[project][v] > 0) {
                set |= 1 << v;
            }
        }
        return set;
    }

    public int purseLeft(int voter, int district) throws IndexOutOfBoundsException {
        checkIndex(voter, ballot.voters);
        checkIndex(district, ballot.districts);
        return equalNow().rounds.purses[voter][district];
    }

    public int meansLeft(int project) throws IndexOutOfBoundsException {
        checkIndex(project, ballot.projects);
        Rounds rounds = equalNow().rounds;
        int sum = 0;
        for (int v = 0; v < ballot.voters; v++) {
            if (has(ballot.backers[project], v)) {
                sum += rounds.means(v, ballot.areas[project]);
            }
        }
        return sum;
    }

    public int richest() {
        Rounds rounds = equalNow().rounds;
        int found = NOT_FOUND;
        int most = 0;
        for (int v = 0; v < ballot.voters; v++) {
            int holds = rounds.means(v, ballot.members[v]);
            if (found < 0 || holds > most) {
                found = v;
                most = holds;
            }
        }
        return found;
    }

    public int raises() {
        return equalNow().raised;
    }

    public int completed() {
        EqualShares now = equalNow();
        return Integer.bitCount(now.chosen() & ~now.unraised);
    }

    // ---- what the rules fund

    public int funded(int rule) {
        return isRule(rule) ? chosenBy(rule) : BAD_VALUE;
    }

    public int fundedAt(int rule, int k) {
        switch (rule) {
            case EQUAL:
                return equalNow().chosenAt(k);
            case GREEDY:
                return greedyNow().chosenAt(k);
            case BEST:
                return elementAt(bestNow(), k);
            default:
                return BAD_VALUE;
        }
    }

    public int paidFrom(int rule, int project, int district) throws IndexOutOfBoundsException {
        checkIndex(project, ballot.projects);
        checkIndex(district, ballot.districts);
        if (rule == EQUAL) {
            EqualShares now = equalNow();
            return now.rounds.taken[project][district] + now.completion.taken[project][district];
        }
        return rule == GREEDY ? greedyNow().taken[project][district] : BAD_VALUE;
    }

    public int leftOf(int rule, int district) throws IndexOutOfBoundsException {
        checkIndex(district, ballot.districts);
        if (rule == EQUAL) {
            return equalNow().completion.left[district];
        }
        return rule == GREEDY ? greedyNow().left[district] : BAD_VALUE;
    }

    public int totalCost(int rule) {
        return isRule(rule) ? ballot.costTogether(chosenBy(rule)) : BAD_VALUE;
    }

    public long welfare(int rule) {
        return isRule(rule) ? ballot.valueTogether(chosenBy(rule)) : BAD_VALUE;
    }

    public int common(int one, int other) {
        return isRule(one) && isRule(other) ? chosenBy(one) & chosenBy(other) : BAD_VALUE;
    }

    public long loss(int rule) {
        if (!isRule(rule)) {
            return BAD_VALUE;
        }
        return (long) ballot.valueTogether(bestNow()) - ballot.valueTogether(chosenBy(rule));
    }

    // ---- how the voters fare

    public int satisfaction(int rule, int voter) throws IndexOutOfBoundsException {
        checkIndex(voter, ballot.voters);
        return isRule(rule) ? ballot.joy(chosenBy(rule), voter) : BAD_VALUE;
    }

    public int worstOff(int rule) {
        if (!isRule(rule)) {
            return BAD_VALUE;
        }
        int set = chosenBy(rule);
        int found = NOT_FOUND;
        int least = 0;
        for (int v = 0; v < ballot.voters; v++) {
            int joy = ballot.joy(set, v);
            if (found < 0 || joy < least) {
                found = v;
                least = joy;
            }
        }
        return found;
    }

    public int spread(int rule) {
        if (!isRule(rule)) {
            return BAD_VALUE;
        }
        int set = chosenBy(rule);
        int least = 0;
        int most = 0;
        for (int v = 0; v < ballot.voters; v++) {
            int joy = ballot.joy(set, v);
            least = v == 0 ? joy : Math.min(least, joy);
            most = Math.max(most, joy);
        }
        return most - least;
    }

    public int rankOf(int rule, int voter) throws IndexOutOfBoundsException {
        checkIndex(voter, ballot.voters);
        if (!isRule(rule)) {
            return BAD_VALUE;
        }
        int set = chosenBy(rule);
        int own = ballot.joy(set, voter);
        int ahead = 0;
        for (int v = 0; v < ballot.voters; v++) {
            int joy = ballot.joy(set, v);
            if (joy > own || joy == own && v < voter) {
                ahead++;
            }
        }
        return ahead;
    }

    public int districtWelfare(int rule, int district) throws IndexOutOfBoundsException {
        checkIndex(district, ballot.districts);
        if (!isRule(rule)) {
            return BAD_VALUE;
        }
        int set = chosenBy(rule);
        int sum = 0;
        for (int v = 0; v < ballot.voters; v++) {
            if (has(ballot.members[v], district)) {
                sum += ballot.joy(set, v);
            }
        }
        return sum;
    }

    public int leftOut(int rule) {
        return isRule(rule) ? ballot.unserved(chosenBy(rule)) : BAD_VALUE;
    }

    public int claimOf(int rule, int project) throws IndexOutOfBoundsException {
        checkIndex(project, ballot.projects);
        return isRule(rule) ? ballot.claim(chosenBy(rule), project) : BAD_VALUE;
    }

    public int unjust(int rule) {
        if (!isRule(rule)) {
            return BAD_VALUE;
        }
        int set = chosenBy(rule);
        for (int p = 0; p < ballot.projects; p++) {
            if (!has(set, p) && ballot.claim(set, p) >= ballot.costs[p]) {
                return p;
            }
        }
        return NOT_FOUND;
    }

    // ---- sets that can be paid

    public boolean canBePaid(int projects) {
        return (projects & -(1 << ballot.projects)) == 0 && optimumNow().canPay(projects);
    }

    public long bestWithout(int project) throws IndexOutOfBoundsException {
        checkIndex(project, ballot.projects);
        Optimum now = optimumNow();
        return now.values[now.best(1 << project)];
    }

    public int cheapestSet(int welfare) {
        return welfare < 0 ? BAD_VALUE : optimumNow().cheapest(welfare);
    }

    // ---- what would be if

    public int changedWithout(int voter) throws IndexOutOfBoundsException {
        checkIndex(voter, ballot.voters);
        spare.copy(ballot);
        spare.approved[voter] = 0;
        return chosenBy(EQUAL) ^ chosenIfSpare();
    }

    public int fundedWithBudget(int district, int budget) throws IndexOutOfBoundsException {
        checkIndex(district, ballot.districts);
        if (budget < 0 || budget > MOST_MONEY) {
            return BAD_VALUE;
        }
        spare.copy(ballot);
        spare.budgets[district] = budget;
        return chosenIfSpare();
    }

    public int fundedWithCost(int project, int cost) throws IndexOutOfBoundsException {
        checkIndex(project, ballot.projects);
        if (cost < 1 || cost > MOST_MONEY) {
            return BAD_VALUE;
        }
        spare.copy(ballot);
        spare.costs[project] = cost;
        return chosenIfSpare();
    }

    public int fundedWithout(int project) throws IndexOutOfBoundsException {
        checkIndex(project, ballot.projects);
        spare.copy(ballot);
        for (int v = 0; v < spare.voters; v++) {
            spare.approved[v] &= ~(1 << project);
        }
        return chosenIfSpare();
    }

    /** A project that costs less comes no later and finds no less left, so the costs at which it is funded begin at 1 without a gap. */
    public int greedyLimit(int project) throws IndexOutOfBoundsException {
        checkIndex(project, ballot.projects);
        spare.copy(ballot);
        spare.tally();
        int limit = 0;
        for (int part = 1 << 16; part > 0; part >>= 1) {
            spare.costs[project] = limit + part;
            if (limit + part <= MOST_MONEY && isGreedilyChosenIfSpare(project)) {
                limit += part;
            }
        }
        return limit == 0 ? NOT_FOUND : limit;
    }

    // ---- changes

    public int setBudget(int district, int budget) {
        if (!isIndex(district, ballot.districts)) {
            return NOT_FOUND;
        }
        if (budget < 0 || budget > MOST_MONEY) {
            return BAD_VALUE;
        }
        return change(History.BUDGET, district, budget);
    }

    public int setCost(int project, int cost) {
        if (!isIndex(project, ballot.projects)) {
            return NOT_FOUND;
        }
        if (cost < 1 || cost > MOST_MONEY) {
            return BAD_VALUE;
        }
        return change(History.COST, project, cost);
    }

    public int setWeight(int voter, int weight) {
        if (!isIndex(voter, ballot.voters)) {
            return NOT_FOUND;
        }
        if (weight < 1 || weight > MOST_WEIGHT) {
            return BAD_VALUE;
        }
        return change(History.WEIGHT, voter, weight);
    }

    public int setMember(int voter, int district, boolean member) {
        if (!isIndex(voter, ballot.voters) || !isIndex(district, ballot.districts)) {
            return NOT_FOUND;
        }
        change(History.MEMBERS, voter, with(ballot.members[voter], district, member));
        return ballot.members[voter];
    }

    public int setApproval(int voter, int project, boolean approved) {
        if (!isIndex(voter, ballot.voters) || !isIndex(project, ballot.projects)) {
            return NOT_FOUND;
        }
        change(History.APPROVED, voter, with(ballot.approved[voter], project, approved));
        return ballot.votes[project];
    }

    public int setSetting(int setting, int value) {
        if (!isIndex(setting, SETTINGS) || value < LEAST_SETTINGS[setting] || value > MOST_SETTINGS[setting]) {
            return BAD_VALUE;
        }
        return change(History.SETTING, setting, value);
    }

    public int undo() {
        if (history.count == 0) {
            return NOT_FOUND;
        }
        history.undoLatest(ballot);
        settle();
        return history.count;
    }

    // ---- helpers

    private int change(int kind, int index, int value) {
        int previous = history.change(ballot, kind, index, value);
        settle();
        return previous;
    }

    private void settle() {
        ballot.tally();
        equalKnown = false;
        greedyKnown = false;
        bestKnown = false;
    }

    private EqualShares equalNow() {
        if (!equalKnown) {
            equal.decide(ballot);
            equalKnown = true;
        }
        return equal;
    }

    private Greedy greedyNow() {
        if (!greedyKnown) {
            greedy.decide(ballot);
            greedyKnown = true;
        }
        return greedy;
    }

    private Optimum optimumNow() {
        if (!bestKnown) {
            optimum.prepare(ballot);
            bestSet = optimum.best(0);
            bestKnown = true;
        }
        return optimum;
    }

    private int bestNow() {
        optimumNow();
        return bestSet;
    }

    private int chosenBy(int rule) {
        if (rule == EQUAL) {
            return equalNow().chosen();
        }
        return rule == GREEDY ? greedyNow().chosen : bestNow();
    }

    private int chosenIfSpare() {
        spare.tally();
        equalIf.decide(spare);
        return equalIf.chosen();
    }

    private boolean isGreedilyChosenIfSpare(int project) {
        greedyIf.decide(spare);
        return has(greedyIf.chosen, project);
    }

    private static boolean isRule(int rule) {
        return rule == EQUAL || rule == GREEDY || rule == BEST;
    }

    private static boolean isIndex(int index, int count) {
        return index >= 0 && index < count;
    }

    private static void checkIndex(int index, int count) {
        if (!isIndex(index, count)) {
            throw new IndexOutOfBoundsException();
        }
    }

    private static boolean has(int set, int element) {
        return (set >> element & 1) != 0;
    }

    private static int with(int set, int element, boolean in) {
        return in ? set | 1 << element : set & ~(1 << element);
    }

    private static int elementAt(int set, int k) {
        int before = 0;
        for (int p = 0; p < MOST_PROJECTS; p++) {
            if (has(set, p)) {
                if (before == k) {
                    return p;
                }
                before++;
            }
        }
        return NOT_FOUND;
    }

    private static int place(int[] names, int count, int name) {
        for (int i = 0; i < count; i++) {
            if (names[i] == name) {
                return i;
            }
        }
        return NOT_FOUND;
    }

    /** Districts, projects, voters and settings. Sets are bit sets; tally() is due after each change. */
    private static final class Ballot {
        int districts, projects, voters;
        final int[] districtNames = new int[MOST_DISTRICTS];
        final int[] budgets = new int[MOST_DISTRICTS];
        final int[] projectNames = new int[MOST_PROJECTS];
        final int[] costs = new int[MOST_PROJECTS];
        final int[] areas = new int[MOST_PROJECTS];
        final int[] weights = new int[MOST_VOTERS];
        final int[] members = new int[MOST_VOTERS];
        final int[] approved = new int[MOST_VOTERS];
        final int[] settings = new int[SETTINGS];
        final int[] backers = new int[MOST_PROJECTS];
        final int[] votes = new int[MOST_PROJECTS];

        Ballot() {
            System.arraycopy(FIRST_SETTINGS, 0, settings, 0, SETTINGS);
        }

        void clear() {
            districts = 0;
            projects = 0;
            voters = 0;
            System.arraycopy(FIRST_SETTINGS, 0, settings, 0, SETTINGS);
        }

        void copy(Ballot other) {
            districts = other.districts;
            projects = other.projects;
            voters = other.voters;
            System.arraycopy(other.districtNames, 0, districtNames, 0, MOST_DISTRICTS);
            System.arraycopy(other.budgets, 0, budgets, 0, MOST_DISTRICTS);
            System.arraycopy(other.projectNames, 0, projectNames, 0, MOST_PROJECTS);
            System.arraycopy(other.costs, 0, costs, 0, MOST_PROJECTS);
            System.arraycopy(other.areas, 0, areas, 0, MOST_PROJECTS);
            System.arraycopy(other.weights, 0, weights, 0, MOST_VOTERS);
            System.arraycopy(other.members, 0, members, 0, MOST_VOTERS);
            System.arraycopy(other.approved, 0, approved, 0, MOST_VOTERS);
            System.arraycopy(other.settings, 0, settings, 0, SETTINGS);
        }

        void tally() {
            for (int p = 0; p < projects; p++) {
                backers[p] = 0;
                votes[p] = 0;
                for (int v = 0; v < voters; v++) {
                    if (has(approved[v], p) && (members[v] & areas[p]) != 0) {
                        backers[p] |= 1 << v;
                        votes[p] += weights[v];
                    }
                }
            }
        }

        int voted() {
            int set = 0;
            for (int p = 0; p < projects; p++) {
                if (votes[p] > 0) {
                    set |= 1 << p;
                }
            }
            return set;
        }

        int worth(int p) {
            return settings[WORTH] == 0 ? 1 : costs[p];
        }

        int memberWeight(int d) {
            int sum = 0;
            for (int v = 0; v < voters; v++) {
                if (has(members[v], d)) {
                    sum += weights[v];
                }
            }
            return sum;
        }

        int firstPurse(int v, int d) {
            return share(v, d, memberWeight(d));
        }

        int share(int v, int d, int memberWeight) {
            return has(members[v], d) && memberWeight > 0 ? budgets[d] * weights[v] / memberWeight : 0;
        }

        int firstMeans(int v, int area) {
            int sum = 0;
            for (int d = 0; d < districts; d++) {
                if (has(area, d)) {
                    sum += firstPurse(v, d);
                }
            }
            return sum;
        }

        boolean goesBefore(int one, int other) {
            int ahead = settings[ORDER] == 0
                    ? votes[one] - votes[other]
                    : votes[one] * costs[other] - votes[other] * costs[one];
            if (ahead != 0) {
                return ahead > 0;
            }
            return costs[one] < costs[other] || costs[one] == costs[other] && one < other;
        }

        int costTogether(int set) {
            int sum = 0;
            for (int p = 0; p < projects; p++) {
                if (has(set, p)) {
                    sum += costs[p];
                }
            }
            return sum;
        }

        int valueTogether(int set) {
            int sum = 0;
            for (int p = 0; p < projects; p++) {
                if (has(set, p)) {
                    sum += votes[p] * worth(p);
                }
            }
            return sum;
        }

        int joy(int set, int v) {
            int sum = 0;
            for (int p = 0; p < projects; p++) {
                if (has(set, p) && has(backers[p], v)) {
                    sum += worth(p);
                }
            }
            return sum;
        }

        int unserved(int set) {
            int left = (1 << voters) - 1;
            for (int p = 0; p < projects; p++) {
                if (has(set, p)) {
                    left &= ~backers[p];
                }
            }
            return left;
        }

        int claim(int set, int project) {
            if (has(set, project)) {
                return 0;
            }
            int claimants = backers[project] & unserved(set);
            int sum = 0;
            for (int v = 0; v < voters; v++) {
                if (has(claimants, v)) {
                    sum += firstMeans(v, areas[project]);
                }
            }
            return sum;
        }
    }

    /** The rounds of equal shares, done once with a given raise of all purses. */
    private static final class Rounds {
        final int[][] purses = new int[MOST_VOTERS][MOST_DISTRICTS];
        final int[][] paid = new int[MOST_PROJECTS][MOST_VOTERS];
        final int[][] taken = new int[MOST_PROJECTS][MOST_DISTRICTS];
        /** By project and round; the round behind the last one is there too. */
        final int[][] prices = new int[MOST_PROJECTS][MOST_PROJECTS + 1];
        final int[] sequence = new int[MOST_PROJECTS];
        /** Of the project that is being priced or funded: the weights of its supporters, 0 for all others, and their means for it. */
        private final int[] stakes = new int[MOST_VOTERS];
        private final int[] stakeMeans = new int[MOST_VOTERS];
        int count, chosen;

        void run(Ballot b, int raise) {
            clear();
            fillPurses(b, raise);
            for (int round = 0; round <= b.projects; round++) {
                int next = choose(b, round);
                if (next < 0) {
                    return;
                }
                fund(b, next, prices[next][round]);
            }
        }

        private void clear() {
            count = 0;
            chosen = 0;
            for (int p = 0; p < MOST_PROJECTS; p++) {
                Arrays.fill(paid[p], 0);
                Arrays.fill(taken[p], 0);
            }
        }

        private void fillPurses(Ballot b, int raise) {
            for (int d = 0; d < b.districts; d++) {
                int weight = b.memberWeight(d);
                for (int v = 0; v < b.voters; v++) {
                    purses[v][d] = has(b.members[v], d) ? b.share(v, d, weight) + raise : 0;
                }
            }
        }

        private int choose(Ballot b, int round) {
            int first = NOT_FOUND;
            for (int p = 0; p < b.projects; p++) {
                boolean isOpen = !has(chosen, p) && weigh(b, p) >= b.costs[p];
                int price = isOpen ? leastPrice(b, p) : NOT_FOUND;
                prices[p][round] = price;
                if (price != NOT_FOUND && (first < 0 || isBetter(b, p, first, round))) {
                    first = p;
                }
            }
            return first;
        }

        private boolean isBetter(Ballot b, int later, int earlier, int round) {
            long laterPrice = prices[later][round];
            long earlierPrice = prices[earlier][round];
            if (b.settings[WORTH] != 0) {
                laterPrice *= b.costs[earlier];
                earlierPrice *= b.costs[later];
            }
            return laterPrice < earlierPrice || laterPrice == earlierPrice && b.votes[later] > b.votes[earlier];
        }

        /** Answers the means of all supporters together. */
        private int weigh(Ballot b, int p) {
            int together = 0;
            for (int v = 0; v < b.voters; v++) {
                boolean backs = has(b.backers[p], v);
                stakes[v] = backs ? b.weights[v] : 0;
                stakeMeans[v] = backs ? means(v, b.areas[p]) : 0;
                together += stakeMeans[v];
            }
            return together;
        }

        /**
         * The price tried is never above the least one that does: it is what those must pay whose means suffice
         * for the price tried before. Each further try finds at least one more voter whose means do not.
         */
        private int leastPrice(Ballot b, int p) {
            int open = b.costs[p];
            int weight = b.votes[p];
            int price = 0;
            for (int tries = 0; tries <= MOST_VOTERS && weight > 0; tries++) {
                price = (open + weight - 1) / weight;
                open = b.costs[p];
                weight = 0;
                for (int v = 0; v < b.voters; v++) {
                    if (stakeMeans[v] < price * stakes[v]) {
                        open -= stakeMeans[v];
                    } else {
                        weight += stakes[v];
                    }
                }
                if (open <= price * weight) {
                    return price;
                }
            }
            return price;
        }

        private void fund(Ballot b, int p, int price) {
            int excess = -b.costs[p];
            weigh(b, p);
            for (int v = 0; v < b.voters; v++) {
                excess += Math.min(stakeMeans[v], price * stakes[v]);
            }
            for (int v = b.voters - 1; v >= 0; v--) {
                int most = Math.min(stakeMeans[v], price * stakes[v]);
                int least = Math.min(stakeMeans[v], (price - 1) * stakes[v]);
                int less = Math.min(excess, most - least);
                excess -= less;
                pay(p, v, b.areas[p], most - less);
            }
            sequence[count] = p;
            count++;
            chosen |= 1 << p;
        }

        private void pay(int p, int v, int area, int amount) {
            int due = amount;
            paid[p][v] = amount;
            for (int d = 0; d < MOST_DISTRICTS; d++) {
                if (has(area, d)) {
                    int part = Math.min(due, purses[v][d]);
                    purses[v][d] -= part;
                    taken[p][d] += part;
                    due -= part;
                }
            }
        }

        int means(int v, int area) {
            int sum = 0;
            for (int d = 0; d < MOST_DISTRICTS; d++) {
                sum += purses[v][d] * (area >> d & 1);
            }
            return sum;
        }

        int takenFrom(int d) {
            int sum = 0;
            for (int p = 0; p < MOST_PROJECTS; p++) {
                sum += taken[p][d];
            }
            return sum;
        }

        boolean overspends(Ballot b) {
            for (int d = 0; d < b.districts; d++) {
                if (takenFrom(d) > b.budgets[d]) {
                    return true;
                }
            }
            return false;
        }

        int whenFunded(int p) {
            for (int round = 0; round < count; round++) {
                if (sequence[round] == p) {
                    return round;
                }
            }
            return NOT_FOUND;
        }
    }

    /** The rule EQUAL: the rounds that count, and their completion. */
    private static final class EqualShares {
        Rounds rounds = new Rounds();
        private Rounds trial = new Rounds();
        final Greedy completion = new Greedy();
        final int[] firstPrices = new int[MOST_PROJECTS];
        int raised, unraised;

        void decide(Ballot b) {
            rounds.run(b, 0);
            raised = 0;
            unraised = rounds.chosen;
            for (int p = 0; p < b.projects; p++) {
                firstPrices[p] = rounds.prices[p][0];
            }
            int wanted = b.settings[COMPLETION] == 2 ? b.voted() : 0;
            for (int k = 1; k <= MOST_RAISES && (wanted & ~rounds.chosen) != 0; k++) {
                trial.run(b, k * b.settings[STEP]);
                if (trial.overspends(b)) {
                    break;
                }
                keepTrial();
                raised = k;
            }
            complete(b);
        }

        private void keepTrial() {
            Rounds former = rounds;
            rounds = trial;
            trial = former;
        }

        private void complete(Ballot b) {
            completion.begin(b);
            for (int d = 0; d < b.districts; d++) {
                completion.left[d] -= rounds.takenFrom(d);
            }
            if (b.settings[COMPLETION] == 1) {
                completion.take(b, b.voted() & ~rounds.chosen);
            }
        }

        int chosen() {
            return rounds.chosen | completion.chosen;
        }

        int chosenAt(int k) {
            return isIndex(k, rounds.count) ? rounds.sequence[k] : completion.chosenAt(k - rounds.count);
        }
    }

    /** The greedy rule, by itself or as a completion. */
    private static final class Greedy {
        final int[] left = new int[MOST_DISTRICTS];
        final int[][] taken = new int[MOST_PROJECTS][MOST_DISTRICTS];
        private final int[] sequence = new int[MOST_PROJECTS];
        int count, chosen;

        void decide(Ballot b) {
            begin(b);
            take(b, b.voted());
        }

        void begin(Ballot b) {
            count = 0;
            chosen = 0;
            System.arraycopy(b.budgets, 0, left, 0, MOST_DISTRICTS);
            for (int p = 0; p < MOST_PROJECTS; p++) {
                Arrays.fill(taken[p], 0);
            }
        }

        void take(Ballot b, int candidates) {
            int waiting = candidates;
            for (int turn = 0; turn < b.projects && waiting != 0; turn++) {
                int p = first(b, waiting);
                if (p < 0) {
                    return;
                }
                waiting &= ~(1 << p);
                if (leftIn(b.areas[p]) >= b.costs[p]) {
                    fund(p, b.areas[p], b.costs[p]);
                }
            }
        }

        private static int first(Ballot b, int waiting) {
            int first = NOT_FOUND;
            for (int p = 0; p < b.projects; p++) {
                if (has(waiting, p) && (first < 0 || b.goesBefore(p, first))) {
                    first = p;
                }
            }
            return first;
        }

        private int leftIn(int area) {
            int sum = 0;
            for (int d = 0; d < MOST_DISTRICTS; d++) {
                if (has(area, d)) {
                    sum += left[d];
                }
            }
            return sum;
        }

        private void fund(int p, int area, int cost) {
            int due = cost;
            for (int d = 0; d < MOST_DISTRICTS; d++) {
                if (has(area, d)) {
                    int part = Math.min(due, left[d]);
                    left[d] -= part;
                    taken[p][d] += part;
                    due -= part;
                }
            }
            sequence[count] = p;
            count++;
            chosen |= 1 << p;
        }

        int chosenAt(int k) {
            return isIndex(k, count) ? sequence[k] : NOT_FOUND;
        }
    }

    /** All sets of projects, with their costs and values, and which of them can be paid. */
    private static final class Optimum {
        final int[] values = new int[1 << MOST_PROJECTS];
        private final int[] costs = new int[1 << MOST_PROJECTS];
        /** By set of districts: the projects that have no district outside it, and its budgets together. */
        private final int[] bound = new int[1 << MOST_DISTRICTS];
        private final int[] budgets = new int[1 << MOST_DISTRICTS];
        private int setCount = 1, areaCount = 1;

        void prepare(Ballot b) {
            setCount = 1 << b.projects;
            areaCount = 1 << b.districts;
            for (int p = 0; p < b.projects; p++) {
                int value = b.votes[p] * b.worth(p);
                for (int set = 0; set < 1 << p; set++) {
                    values[set | 1 << p] = values[set] + value;
                    costs[set | 1 << p] = costs[set] + b.costs[p];
                }
            }
            for (int d = 0; d < b.districts; d++) {
                for (int area = 0; area < 1 << d; area++) {
                    budgets[area | 1 << d] = budgets[area] + b.budgets[d];
                }
            }
            for (int area = 0; area < areaCount; area++) {
                bound[area] = projectsWithin(b, area);
            }
        }

        private static int projectsWithin(Ballot b, int area) {
            int set = 0;
            for (int p = 0; p < b.projects; p++) {
                if ((b.areas[p] & ~area) == 0) {
                    set |= 1 << p;
                }
            }
            return set;
        }

        boolean canPay(int set) {
            for (int area = 0; area < areaCount; area++) {
                if (costs[set & bound[area]] > budgets[area]) {
                    return false;
                }
            }
            return true;
        }

        int best(int barred) {
            int best = 0;
            for (int set = 1; set < setCount; set++) {
                boolean better = values[set] > values[best] || values[set] == values[best] && costs[set] < costs[best];
                if (better && (set & barred) == 0 && canPay(set)) {
                    best = set;
                }
            }
            return best;
        }

        int cheapest(int least) {
            int cheapest = NOT_FOUND;
            for (int set = 0; set < setCount; set++) {
                boolean better = values[set] >= least && (cheapest < 0 || costs[set] < costs[cheapest]);
                if (better && canPay(set)) {
                    cheapest = set;
                }
            }
            return cheapest;
        }
    }

    /** The latest changes, each as the row and index it wrote to and the value that was there. */
    private static final class History {
        static final int BUDGET = 0, COST = 1, WEIGHT = 2, MEMBERS = 3, APPROVED = 4, SETTING = 5;
        private final int[] kinds = new int[MOST_UNDONE];
        private final int[] indices = new int[MOST_UNDONE];
        private final int[] previous = new int[MOST_UNDONE];
        int count;

        int change(Ballot b, int kind, int index, int value) {
            if (count == MOST_UNDONE) {
                forgetOldest();
            }
            int[] row = row(b, kind);
            int before = row[index];
            kinds[count] = kind;
            indices[count] = index;
            previous[count] = before;
            count++;
            row[index] = value;
            return before;
        }

        void undoLatest(Ballot b) {
            if (count > 0) {
                count--;
                row(b, kinds[count])[indices[count]] = previous[count];
            }
        }

        private void forgetOldest() {
            count = MOST_UNDONE - 1;
            System.arraycopy(kinds, 1, kinds, 0, count);
            System.arraycopy(indices, 1, indices, 0, count);
            System.arraycopy(previous, 1, previous, 0, count);
        }

        private static int[] row(Ballot b, int kind) {
            switch (kind) {
                case BUDGET:
                    return b.budgets;
                case COST:
                    return b.costs;
                case WEIGHT:
                    return b.weights;
                case MEMBERS:
                    return b.members;
                case APPROVED:
                    return b.approved;
                default:
                    return b.settings;
            }
        }
    }

    /** The input buffer, and the token of it that is being read. A word that is too long for a name is of kind OTHER. */
    private static final class Text {
        static final int END = 0, NAME = 1, NUMBER = 2, SEMICOLON = 3, OTHER = 4;
        static final int DISTRICT = 5, PROJECT = 6, VOTER = 7, IN = 8, FOR = 9, SET = 10;
        /** The kind of the word of a setting is this and the number of the setting together. */
        static final int SETTING = 11;
        private final byte[] bytes = new byte[MOST_BYTES];
        int size, kind, start;
        private int length, stop;

        void append(int four) {
            for (int shift = 24; shift >= 0 && size < MOST_BYTES; shift -= 8) {
                bytes[size] = (byte) (four >> shift);
                size++;
            }
        }

        void open(int newLength) {
            length = Math.min(newLength, size);
            start = 0;
            stop = 0;
            kind = END;
        }

        void next() {
            while (stop < length && (bytes[stop] == ' ' || bytes[stop] == '\n')) {
                stop++;
            }
            start = stop;
            if (start >= length) {
                kind = END;
            } else if (isLetter(bytes[start])) {
                while (stop < length && isLetter(bytes[stop])) {
                    stop++;
                }
                kind = wordKind();
            } else if (isDigit(bytes[start])) {
                while (stop < length && isDigit(bytes[stop])) {
                    stop++;
                }
                kind = NUMBER;
            } else {
                stop++;
                kind = bytes[start] == ';' ? SEMICOLON : OTHER;
            }
        }

        private static boolean isLetter(int sign) {
            return sign >= 'a' && sign <= 'z';
        }

        private static boolean isDigit(int sign) {
            return sign >= '0' && sign <= '9';
        }

        private int wordKind() {
            if (isWord("district")) {
                return DISTRICT;
            }
            if (isWord("project")) {
                return PROJECT;
            }
            if (isWord("voter")) {
                return VOTER;
            }
            if (isWord("in")) {
                return IN;
            }
            if (isWord("for")) {
                return FOR;
            }
            if (isWord("set")) {
                return SET;
            }
            if (isWord("worth")) {
                return SETTING + WORTH;
            }
            if (isWord("completion")) {
                return SETTING + COMPLETION;
            }
            if (isWord("step")) {
                return SETTING + STEP;
            }
            if (isWord("order")) {
                return SETTING + ORDER;
            }
            return stop - start <= LETTERS ? NAME : OTHER;
        }

        private boolean isWord(String word) {
            if (stop - start != word.length()) {
                return false;
            }
            for (int i = 0; i < word.length(); i++) {
                if (bytes[start + i] != word.charAt(i)) {
                    return false;
                }
            }
            return true;
        }

        /** The setting that the token names; NOT_FOUND if it names none. */
        int setting() {
            return isIndex(kind - SETTING, SETTINGS) ? kind - SETTING : NOT_FOUND;
        }

        /** All numbers above every range count as one, so that none is too long. */
        int number() {
            int value = 0;
            for (int i = start; i < stop; i++) {
                value = Math.min(value * 10 + bytes[i] - '0', MOST_MONEY + 1);
            }
            return value;
        }

        /** The letters of a name as districtNamed takes them. */
        int letters() {
            int packed = 0;
            for (int i = start; i < start + LETTERS; i++) {
                packed = packed << BITS_A_LETTER | (i < stop ? bytes[i] - 'a' + 1 : 0);
            }
            return packed;
        }
    }

    /**
     * Reads a text into a ballot. A method that finds an error answers its code, and the token at hand is the wrong one;
     * else the token behind what it has read is at hand.
     */
    private static final class Reader {
        private int settingsGiven;

        int read(Text text, Ballot b) {
            b.clear();
            settingsGiven = 0;
            int statements = 0;
            for (int i = 0; i <= MOST_BYTES; i++) {
                text.next();
                int error;
                switch (text.kind) {
                    case Text.END:
                        return statements;
                    case Text.DISTRICT:
                        error = district(text, b);
                        break;
                    case Text.PROJECT:
                        error = project(text, b);
                        break;
                    case Text.VOTER:
                        error = voter(text, b);
                        break;
                    case Text.SET:
                        error = setting(text, b);
                        break;
                    default:
                        error = SYNTAX_ERROR;
                }
                if (error < 0) {
                    return error;
                }
                if (text.kind != Text.SEMICOLON) {
                    return SYNTAX_ERROR;
                }
                statements++;
            }
            return statements;
        }

        private static int district(Text text, Ballot b) {
            int d = b.districts;
            if (d >= MOST_DISTRICTS) {
                return COUNT_ERROR;
            }
            int name = newName(text, b);
            if (name < 0) {
                return name;
            }
            int budget = integer(text, 0, MOST_MONEY);
            if (budget < 0) {
                return budget;
            }
            b.districtNames[d] = name;
            b.budgets[d] = budget;
            b.districts = d + 1;
            text.next();
            return 0;
        }

        private static int project(Text text, Ballot b) {
            int p = b.projects;
            if (p >= MOST_PROJECTS) {
                return COUNT_ERROR;
            }
            int name = newName(text, b);
            if (name < 0) {
                return name;
            }
            int cost = integer(text, 1, MOST_MONEY);
            if (cost < 0) {
                return cost;
            }
            int area = list(text, b.districtNames, b.districts);
            if (area < 0) {
                return area;
            }
            b.projectNames[p] = name;
            b.costs[p] = cost;
            b.areas[p] = area;
            b.projects = p + 1;
            return 0;
        }

        private static int voter(Text text, Ballot b) {
            int v = b.voters;
            if (v >= MOST_VOTERS) {
                return COUNT_ERROR;
            }
            int weight = integer(text, 1, MOST_WEIGHT);
            if (weight < 0) {
                return weight;
            }
            text.next();
            if (text.kind != Text.IN) {
                return SYNTAX_ERROR;
            }
            int members = list(text, b.districtNames, b.districts);
            if (members < 0) {
                return members;
            }
            int approved = text.kind == Text.FOR ? list(text, b.projectNames, b.projects) : 0;
            if (approved < 0) {
                return approved;
            }
            b.weights[v] = weight;
            b.members[v] = members;
            b.approved[v] = approved;
            b.voters = v + 1;
            return 0;
        }

        private int setting(Text text, Ballot b) {
            text.next();
            int setting = text.setting();
            if (setting < 0) {
                return SYNTAX_ERROR;
            }
            if (has(settingsGiven, setting)) {
                return DUPLICATE_ERROR;
            }
            int value = integer(text, LEAST_SETTINGS[setting], MOST_SETTINGS[setting]);
            if (value < 0) {
                return value;
            }
            settingsGiven |= 1 << setting;
            b.settings[setting] = value;
            text.next();
            return 0;
        }

        /** Answers the letters of a name that is still free; they are never negative. */
        private static int newName(Text text, Ballot b) {
            text.next();
            if (text.kind != Text.NAME) {
                return SYNTAX_ERROR;
            }
            int name = text.letters();
            boolean isTaken = place(b.districtNames, b.districts, name) >= 0
                    || place(b.projectNames, b.projects, name) >= 0;
            return isTaken ? DUPLICATE_ERROR : name;
        }

        private static int integer(Text text, int least, int most) {
            text.next();
            if (text.kind != Text.NUMBER) {
                return SYNTAX_ERROR;
            }
            int value = text.number();
            return value < least || value > most ? RANGE_ERROR : value;
        }

        /** Reads names up to the first token that is none; answers what they name as a bit set. */
        private static int list(Text text, int[] names, int count) {
            int set = 0;
            for (int i = 0; i <= count; i++) {
                text.next();
                if (text.kind != Text.NAME) {
                    return set == 0 ? SYNTAX_ERROR : set;
                }
                int index = place(names, count, text.letters());
                if (index < 0) {
                    return NAME_ERROR;
                }
                if (has(set, index)) {
                    return DUPLICATE_ERROR;
                }
                set |= 1 << index;
            }
            return set;
        }
    }
}
