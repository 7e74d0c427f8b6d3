import java.io.IOException;
import java.nio.file.Files;
import java.nio.file.Path;
import java.util.ArrayList;
import java.util.LinkedHashMap;
import java.util.LinkedHashSet;
import java.util.List;
import java.util.Map;
import java.util.Set;
import java.util.regex.Matcher;
import java.util.regex.Pattern;

/**
 * The document taken apart into sentences (at each full stop and semicolon), and the tests of them: a test names the
 * sentence that it tests in the document's own words, and at the end each sentence that names a boundary case must have
 * had a test.
 */
abstract class Sentences {
    static final int EQUAL = 0, GREEDY = 1, BEST = 2;
    static final int WORTH = 0, COMPLETION = 1, STEP = 2, ORDER = 3;
    static final int NONE = -1, BAD = -2, FULL = -3, SYNTAX = -11, RANGE = -12, NAME = -13, DUPLICATE = -14, COUNT = -15;
    static final int MIN = Integer.MIN_VALUE, MAX = Integer.MAX_VALUE;
    /** The document's first example. */
    static final String EXAMPLE = "set worth 0;district a 100;district b 60;project x 50 a;project y 60 a b;project z 40 b;"
            + "voter 1 in a for x y;voter 1 in a for x;voter 2 in a b for y z;voter 1 in b for z;";
    /** Purses of 50; p is for the first voter alone, who has too little. */
    static final String RAISED = "district a 100;project p 80 a;voter 1 in a for p;voter 1 in a;set completion 2;";
    /** As many districts, projects and voters as there may be. */
    static final String FULL_BALLOT = "district a 50;district b 60;district c 70;district d 80;" + projects(12, "9 a d")
            + "voter 1 in a b for m n;".repeat(12) + "voter 9 in c d for w x;".repeat(12);
    /** No rules. */
    static final int[] NO_RULES = {-1, 3, MIN, MAX};

    /** The words of sentences of the promises that name a boundary case; of the description each sentence is tested. */
    private static final Pattern BOUNDARY = Pattern.compile("Throws |_|FULL|\\d|\\b(at most|at least|all else|least|greatest|most|possibly|"
            + "range|nothing|none|nobody|no|without|empty|empties|emptied|not|Ties|latest|first|also|likewise|same|other|otherwise)\\b");
    /** The description's capitals at the head of a paragraph, and the forms of statements, which stand on several lines. */
    private static final Pattern HEADING = Pattern.compile("[A-Z ]+|TEXT FORMAT for load");

    /** By promise (0 for the description): its sentences that need a test. */
    private static final Map<Integer, Set<String>> NEEDED = new LinkedHashMap<>();
    private static final Map<Integer, Set<String>> ALL = new LinkedHashMap<>();
    private static final Map<String, Integer> ASKED = new LinkedHashMap<>();
    private static int promise = 0;
    private static String sentence = "";
    private static int wrong = 0;

    interface Call {
        void run();
    }

    interface AtIndex {
        void ask(ParticipatoryBudget x, int index);
    }

    interface ByRule {
        long ask(int rule);
    }

    /** Projects m, n, o and so on. */
    static String projects(int count, String rest) {
        StringBuilder text = new StringBuilder();
        for (int p = 0; p < count; p++) {
            text.append("project ").append((char) ('m' + p)).append(' ').append(rest).append(';');
        }
        return text.toString();
    }

    // ---- the document

    static void readDocument(String path) throws IOException {
        String text = Files.readString(Path.of(path));
        Matcher description = Pattern.compile("(?s)\n## Description\n(.*?)\nExamples \\(").matcher(text);
        if (description.find()) {
            take(0, description.group(1).lines().toList());
        }
        for (String part : text.split("\n## ")) {
            Matcher head = Pattern.compile("Promise (\\d+): .*\n\n`.*`\n").matcher(part);
            if (head.lookingAt()) {
                take(Integer.parseInt(head.group(1)), part.substring(head.end()).lines().toList());
            }
        }
        if (ALL.size() != 66) {
            fault("the document has not 65 promises and a description: " + ALL.keySet());
        }
    }

    private static void take(int number, List<String> lines) {
        Set<String> all = ALL.computeIfAbsent(number, n -> new LinkedHashSet<>());
        Set<String> needed = NEEDED.computeIfAbsent(number, n -> new LinkedHashSet<>());
        for (String line : lines) {
            for (String piece : line.strip().split("(?<=[.;]) ")) {
                String plain = plain(piece);
                if (!plain.isEmpty() && !HEADING.matcher(plain).matches()) {
                    all.add(plain);
                    if (number == 0 || BOUNDARY.matcher(plain.replaceFirst("^- `\\w+`:", "")).find()) {
                        needed.add(plain);
                    }
                }
            }
        }
    }

    private static String plain(String piece) {
        return piece.replaceAll("\\s+", " ").strip().replaceFirst("(?<![\"'])[.;]$", "");
    }

    // ---- the tests

    static void promise(int number) {
        promise = number;
        sentence = "";
    }

    /** What is asked from here on tests this sentence. */
    static void of(String words) {
        sentence = plain(words);
        if (!ALL.getOrDefault(promise, Set.of()).contains(sentence)) {
            fault("no such sentence in the document");
        }
        NEEDED.getOrDefault(promise, Set.of()).remove(sentence);
        ASKED.merge(promise + " " + sentence, 0, Integer::sum);
    }

    private static void ask() {
        ASKED.merge(promise + " " + sentence, 1, Integer::sum);
    }

    static void fault(String what) {
        wrong++;
        String line = StackWalker.getInstance().walk(s -> s.filter(f -> !f.getClassName().equals("Sentences")).findFirst())
                .map(f -> f.getFileName() + ":" + f.getLineNumber()).orElse("");
        System.out.println("promise " + promise + ", \"" + sentence + "\", " + line + ": " + what);
    }

    static void due(long got, long want) {
        ask();
        if (got != want) {
            fault("answered " + got + ", due is " + want);
        }
    }

    static void due(boolean got, boolean want) {
        due(got ? 1 : 0, want ? 1 : 0);
    }

    static void due(String got, String want) {
        ask();
        if (!got.equals(want)) {
            fault("answered " + got + ", due is " + want);
        }
    }

    static void noIndex(Call... calls) {
        for (int i = 0; i < calls.length; i++) {
            ask();
            boolean thrown = false;
            try {
                calls[i].run();
            } catch (IndexOutOfBoundsException e) {
                thrown = e.getClass() == IndexOutOfBoundsException.class;
            }
            if (!thrown) {
                fault("call " + i + " throws no IndexOutOfBoundsException");
            }
        }
    }

    /** Which indices are valid: of a ballot with nothing in it, of a small one, and of the largest one. */
    static void districtIndex(AtIndex call) {
        indices(new ParticipatoryBudget(), 0, call);
        indices(loaded(EXAMPLE), 2, call);
        indices(loaded(FULL_BALLOT), 4, call);
    }

    static void projectIndex(AtIndex call) {
        indices(new ParticipatoryBudget(), 0, call);
        indices(loaded(EXAMPLE), 3, call);
        indices(loaded(FULL_BALLOT), 12, call);
    }

    static void voterIndex(AtIndex call) {
        indices(new ParticipatoryBudget(), 0, call);
        indices(loaded(EXAMPLE), 4, call);
        indices(loaded(FULL_BALLOT), 24, call);
    }

    private static void indices(ParticipatoryBudget x, int count, AtIndex call) {
        for (int bad : new int[] {-1, count, count + 1, 24, MIN, MAX}) {
            noIndex(() -> call.ask(x, bad));
        }
        for (int good = 0; good < count; good++) {
            ask();
            try {
                call.ask(x, good);
            } catch (IndexOutOfBoundsException e) {
                fault("index " + good + " is refused");
            }
        }
    }

    /** What is none of the three rules is answered by BAD_VALUE, and no rule is. */
    static void threeRules(ByRule call) {
        for (int rule : NO_RULES) {
            due(call.ask(rule), BAD);
        }
        for (int rule = 0; rule < 3; rule++) {
            due(call.ask(rule) == BAD, false);
        }
    }

    /** What is neither EQUAL nor GREEDY is answered by BAD_VALUE. */
    static void twoRules(ByRule call) {
        for (int rule : NO_RULES) {
            due(call.ask(rule), BAD);
        }
        due(call.ask(BEST), BAD);
        due(call.ask(EQUAL) == BAD, false);
        due(call.ask(GREEDY) == BAD, false);
    }

    /** A load of the text into a new object must answer this code, with this position. */
    static void error(String text, int code, int position) {
        ParticipatoryBudget x = new ParticipatoryBudget();
        int answered = load(x, text);
        ask();
        if (answered != code || x.errorPosition() != position) {
            fault("\"" + text + "\" answered " + answered + " at " + x.errorPosition() + ", due is " + code + " at " + position);
        }
    }

    static int load(ParticipatoryBudget x, String text) {
        feed(x, text);
        return x.load(text.length());
    }

    static void feed(ParticipatoryBudget x, String text) {
        for (Object[] w : RandomRunsTest.feeds(text)) {
            x.feed((int) w[0], (int) w[1], (int) w[2], (int) w[3], (int) w[4]);
        }
    }

    static ParticipatoryBudget loaded(String text) {
        ParticipatoryBudget x = new ParticipatoryBudget();
        if (load(x, text) < 0) {
            fault("refused: " + text);
        }
        return x;
    }

    static int letters(String name) {
        int letters = 0;
        for (int i = 0; i < 6; i++) {
            letters = letters * 32 + (i < name.length() ? name.charAt(i) - 'a' + 1 : 0);
        }
        return letters;
    }

    /** What a ballot answers: everything but the changes that can be undone. Some 130 calls for a small one. */
    static String state(ParticipatoryBudget x) {
        List<Object> all = new ArrayList<>(List.of(x.districtCount(), x.projectCount(), x.voterCount(), x.raises(), x.completed(), x.richest()));
        for (int s = 0; s < 4; s++) {
            all.add(x.getSetting(s));
        }
        for (int d = 0; d < x.districtCount(); d++) {
            all.addAll(List.of(x.budgetOf(d), x.leftOf(EQUAL, d), x.leftOf(GREEDY, d), x.districtWelfare(BEST, d), x.fundedWithBudget(d, 77)));
        }
        for (int p = 0; p < x.projectCount(); p++) {
            all.addAll(List.of(x.costOf(p), x.districtsOf(p), x.supporters(p), x.votesFor(p), x.firstPrice(p), x.priceOf(p), x.payers(p)));
            all.addAll(List.of(x.roundOf(p), x.meansLeft(p), x.claimOf(GREEDY, p), x.greedyLimit(p), x.bestWithout(p), x.fundedWithout(p)));
        }
        for (int v = 0; v < x.voterCount(); v++) {
            all.addAll(List.of(x.memberships(v), x.approvals(v), x.weightOf(v), x.endowment(v), x.spentBy(v), x.changedWithout(v)));
        }
        for (int rule = 0; rule < 3; rule++) {
            all.addAll(List.of(x.funded(rule), x.fundedAt(rule, 0), x.totalCost(rule), x.welfare(rule), x.loss(rule), x.worstOff(rule)));
            all.addAll(List.of(x.leftOut(rule), x.unjust(rule), x.spread(rule)));
        }
        return all.toString();
    }

    /** A test that throws is a fault of the sentence that it was at; the others are run all the same. */
    static void runAll(Call... tests) {
        for (Call test : tests) {
            try {
                test.run();
            } catch (RuntimeException e) {
                fault("threw " + e);
            }
        }
    }

    // ---- the end

    static void finish() {
        for (Map.Entry<Integer, Set<String>> entry : NEEDED.entrySet()) {
            promise = entry.getKey();
            for (String untested : entry.getValue()) {
                sentence = untested;
                fault("has no test");
            }
        }
        int asked = 0;
        for (Map.Entry<String, Integer> entry : ASKED.entrySet()) {
            asked += entry.getValue();
            if (entry.getValue() == 0) {
                wrong++;
                System.out.println("a test that asks nothing: " + entry.getKey());
            }
        }
        System.out.println(ASKED.size() + " sentences, " + asked + " answers, " + wrong + " wrong");
        if (wrong != 0) {
            System.exit(1);
        }
    }
}
