/** What the document promises, promise by promise, with answers worked out by hand. */
public final class PromisesTest {
    private static final int EQUAL = 0, GREEDY = 1, BEST = 2;
    private static final int NONE = -1, BAD = -2, FULL = -3, SYNTAX = -11, RANGE = -12, NAME = -13, DUPLICATE = -14, COUNT = -15;
    private static final int MIN = Integer.MIN_VALUE, MAX = Integer.MAX_VALUE;

    /** The document's first example. */
    private static final String EXAMPLE = "set worth 0;district a 100;district b 60;project x 50 a;project y 60 a b;project z 40 b;"
            + "voter 1 in a for x y;voter 1 in a for x;voter 2 in a b for y z;voter 1 in b for z;";
    /** Purses of 10, 20 and 30; x costs 31 and is for all. */
    private static final String WEIGHTS = "district a 60;project x 31 a;voter 1 in a for x;voter 2 in a for x;voter 3 in a for x;";
    /** Purses of 35; x is for the first voter, y for both: first x for 20, then y for 29. */
    private static final String TWO_ROUNDS = "district a 70;project x 20 a;project y 44 a;voter 1 in a for x y;voter 1 in a for y;";
    /** Purses of 50; x is for the first voter alone, who has too little. */
    private static final String RAISED = "district a 100;project x 80 a;voter 1 in a for x;voter 1 in a;set completion 2;";
    /** Three want x, two want y and z, which are less dear; one is for nothing. */
    private static final String GREEDS = "district a 100;project x 90 a;project y 40 a;project z 40 a;"
            + "voter 3 in a for x;voter 2 in a for y z;voter 1 in a;";
    /** x is in both districts. */
    private static final String OVERLAP = "district a 50;district b 50;project x 60 a b;project y 50 a;project z 50 b;"
            + "voter 3 in a b for x;voter 2 in a for y;voter 2 in b for z;";

    private static int wrong = 0;
    private static int promise = 0;
    private static int asked = 0;

    private interface Call {
        void run();
    }

    private static void due(long got, long want) {
        asked++;
        if (got != want) {
            wrong++;
            StackTraceElement at = new Throwable().getStackTrace()[1];
            System.out.println("promise " + promise + ", line " + at.getLineNumber() + ": answered " + got + ", due is " + want);
        }
    }

    private static void due(boolean got, boolean want) {
        asked++;
        if (got != want) {
            wrong++;
            StackTraceElement at = new Throwable().getStackTrace()[1];
            System.out.println("promise " + promise + ", line " + at.getLineNumber() + ": answered " + got + ", due is " + want);
        }
    }

    private static void noIndex(Call... calls) {
        for (int i = 0; i < calls.length; i++) {
            asked++;
            boolean thrown = false;
            try {
                calls[i].run();
            } catch (IndexOutOfBoundsException e) {
                thrown = e.getClass() == IndexOutOfBoundsException.class;
            }
            if (!thrown) {
                wrong++;
                System.out.println("promise " + promise + ": call " + i + " throws no IndexOutOfBoundsException");
            }
        }
    }

    private static int load(ParticipatoryBudget x, String text) {
        for (Object[] w : RandomRunsTest.feeds(text)) {
            x.feed((int) w[0], (int) w[1], (int) w[2], (int) w[3], (int) w[4]);
        }
        return x.load(text.length());
    }

    private static ParticipatoryBudget loaded(String text) {
        ParticipatoryBudget x = new ParticipatoryBudget();
        if (load(x, text) < 0) {
            throw new IllegalStateException("a text of the tests is wrong: " + text);
        }
        return x;
    }

    private static int letters(String name) {
        int letters = 0;
        for (int i = 0; i < 6; i++) {
            letters = letters * 32 + (i < name.length() ? name.charAt(i) - 'a' + 1 : 0);
        }
        return letters;
    }

    private static void error(String text, int code, int position) {
        ParticipatoryBudget x = new ParticipatoryBudget();
        int answered = load(x, text);
        asked++;
        if (answered != code || x.errorPosition() != position) {
            wrong++;
            System.out.println("promise " + promise + ": \"" + text + "\" answered " + answered + " at " + x.errorPosition()
                    + ", due is " + code + " at " + position);
        }
    }

    public static void main(String[] args) {
        Call[] tests = {PromisesTest::newObject, PromisesTest::feed, PromisesTest::load, PromisesTest::errorPosition,
            PromisesTest::districtCount, PromisesTest::projectCount, PromisesTest::voterCount, PromisesTest::undoCount,
            PromisesTest::districtNamed, PromisesTest::projectNamed, PromisesTest::budgetOf, PromisesTest::costOf,
            PromisesTest::districtsOf, PromisesTest::memberships, PromisesTest::approvals, PromisesTest::weightOf,
            PromisesTest::getSetting, PromisesTest::supporters, PromisesTest::votesFor, PromisesTest::purse,
            PromisesTest::firstPrice, PromisesTest::funded, PromisesTest::fundedAt, PromisesTest::priceOf, PromisesTest::paidBy,
            PromisesTest::paidFrom, PromisesTest::leftOf, PromisesTest::purseLeft, PromisesTest::meansLeft, PromisesTest::raises,
            PromisesTest::completed, PromisesTest::totalCost, PromisesTest::welfare, PromisesTest::satisfaction,
            PromisesTest::worstOff, PromisesTest::leftOut, PromisesTest::claimOf, PromisesTest::unjust,
            PromisesTest::changedWithout, PromisesTest::greedyLimit, PromisesTest::canBePaid, PromisesTest::common,
            PromisesTest::spread, PromisesTest::loss, PromisesTest::bestWithout, PromisesTest::endowment, PromisesTest::spentBy,
            PromisesTest::payers, PromisesTest::roundOf, PromisesTest::commonSupport, PromisesTest::priceIn,
            PromisesTest::fundedWithBudget, PromisesTest::fundedWithCost, PromisesTest::fundedWithout, PromisesTest::cheapestSet,
            PromisesTest::districtWelfare, PromisesTest::rankOf, PromisesTest::richest, PromisesTest::setBudget,
            PromisesTest::setCost, PromisesTest::setWeight, PromisesTest::setMember, PromisesTest::setApproval,
            PromisesTest::setSetting, PromisesTest::undo};
        for (Call test : tests) {
            promise++;
            test.run();
        }
        System.out.println(promise + " promises, " + asked + " answers, " + wrong + " wrong");
        if (wrong != 0 || promise != 65) {
            System.exit(1);
        }
    }

    private static void newObject() {
        ParticipatoryBudget x = new ParticipatoryBudget();
        due(x.districtCount(), 0);
        due(x.projectCount(), 0);
        due(x.voterCount(), 0);
        due(x.undoCount(), 0);
        due(x.undo(), NONE);
        due(x.getSetting(ParticipatoryBudget.WORTH), 0);
        due(x.getSetting(ParticipatoryBudget.COMPLETION), 0);
        due(x.getSetting(ParticipatoryBudget.STEP), 10);
        due(x.getSetting(ParticipatoryBudget.ORDER), 0);
        due(x.load(1), BAD);
        due(x.errorPosition(), NONE);
        due(x.load(0), 0);
        for (int rule = 0; rule < 3; rule++) {
            due(x.funded(rule), 0);
            due(x.fundedAt(rule, 0), NONE);
            due(x.totalCost(rule), 0);
            due(x.welfare(rule), 0);
            due(x.worstOff(rule), NONE);
            due(x.leftOut(rule), 0);
            due(x.unjust(rule), NONE);
            due(x.spread(rule), 0);
        }
        due(x.richest(), NONE);
        due(x.raises(), 0);
        due(x.completed(), 0);
        due(x.cheapestSet(0), 0);
        due(x.cheapestSet(1), NONE);
        // two objects know nothing of one another
        load(x, EXAMPLE);
        due(new ParticipatoryBudget().districtCount(), 0);
    }

    private static void feed() {
        ParticipatoryBudget x = new ParticipatoryBudget();
        for (int i = 1; i <= 60; i++) {
            due(x.feed(0x20202020, 0x20202020, 0x20202020, 0x20202020, 0x20202020), 20 * i);
        }
        due(x.feed(0, 0, 0, 0, 0), FULL);
        due(x.load(1201), BAD);
        due(x.load(1200), 0);
        due(x.feed(0x2020200a, 0x0a202020, 0x20202020, 0x20202020, 0x20202073), 20);
        due(x.feed(0x65742073, 0x74657020, 0x313b2020, 0x20202020, 0x20202020), 40);
        due(x.load(30), 1);
        due(x.getSetting(ParticipatoryBudget.STEP), 1);
        // bytes from 128 on are no letters, digits or spaces
        due(x.feed(0x20e1e2e3, -1, 0, 0, 0), 20);
        due(x.load(20), SYNTAX);
        due(x.errorPosition(), 1);
    }

    private static void load() {
        ParticipatoryBudget x = new ParticipatoryBudget();
        due(load(x, EXAMPLE), 10);
        due(x.load(1), BAD);
        due(x.load(0), 0);
        due(x.districtCount(), 0);
        loadKeepsOrDrops();
        due(load(x, "district a 0;district abcdef 00100000;district b\n1;district c 2 ; project p 1 c abcdef b a;"
                + "project q 100000 a;voter 1 in b for q p;voter 9in c;set order 1;set step 1000;set completion 2;set worth 1;"), 12);
        due(x.budgetOf(1), 100000);
        due(x.districtsOf(0), 15);
        due(x.costOf(1), 100000);
        due(x.approvals(0), 3);
        due(x.weightOf(1), 9);
        due(x.memberships(1), 8);
        due(x.approvals(1), 0);
        due(x.getSetting(0) + 10 * x.getSetting(1) + 100 * x.getSetting(3), 121);
        due(x.getSetting(2), 1000);
        due(load(x, "set step 7;"), 1);
        due(x.getSetting(0) + 10 * x.getSetting(1) + 100 * x.getSetting(3), 0);
        due(load(x, ""), 0);
        due(x.getSetting(2), 10);
        syntaxErrors();
        otherErrors();
    }

    private static void loadKeepsOrDrops() {
        ParticipatoryBudget x = loaded(EXAMPLE);
        x.setCost(0, 7);
        x.feed(0x78202020, 0, 0, 0, 0);
        due(x.load(-1), BAD);
        due(x.load(21), BAD);
        due(x.load(MAX), BAD);
        due(x.load(1), SYNTAX);
        due(x.load(1), BAD);
        due(x.costOf(0), 7);
        due(x.undoCount(), 1);
        due(x.undo(), 0);
        due(x.costOf(0), 50);
        x.setCost(0, 7);
        due(load(x, "district q 5;"), 1);
        due(x.undoCount(), 0);
        due(x.undo(), NONE);
        due(x.projectCount(), 0);
        due(x.voterCount(), 0);
        // a number or a word may be cut by the length
        x.feed(0x73657420, 0x73746570, 0x20313030, 0x303b2020, 0x20202020);
        due(x.load(11), SYNTAX);
        due(x.errorPosition(), 11);
        x.feed(0x73657420, 0x73746570, 0x20313030, 0x303b2020, 0x20202020);
        due(x.load(7), SYNTAX);
        due(x.errorPosition(), 4);
        x.feed(0x64697374, 0x72696374, 0x20616263, 0x20373b20, 0x20202020);
        due(x.load(10), SYNTAX);
        due(x.errorPosition(), 10);
        // what is behind the length is dropped as well
        x.feed(0x20202020, 0x73657420, 0x73746570, 0x20393b20, 0x20202020);
        due(x.load(3), 0);
        due(x.load(1), BAD);
    }

    private static void syntaxErrors() {
        error("x", SYNTAX, 0);
        error("bet step 1;", SYNTAX, 0);
        error("foter 1 in a;", SYNTAX, 0);
        error("district a 5;voter 1 an a;", SYNTAX, 21);
        error("district a 5;voter 1 in a nor;", NAME, 26);
        error("set morth 1;", SYNTAX, 4);
        error(";", SYNTAX, 0);
        error(" 5", SYNTAX, 1);
        error("districts a 5;", SYNTAX, 0);
        error("worth 1;", SYNTAX, 0);
        error("District a 5;", SYNTAX, 0);
        error("district", SYNTAX, 8);
        error("district  ", SYNTAX, 10);
        error("district 5 a;", SYNTAX, 9);
        error("district abcdefg 5;", SYNTAX, 9);
        error("district step 5;", SYNTAX, 9);
        for (String word : "district project voter in for set worth completion step order".split(" ")) {
            error("district " + word + " 5;", SYNTAX, 9);
            error("district a 5;project p 5 a " + word + ";", SYNTAX, 27);
        }
        error("district a b;", SYNTAX, 11);
        error("district a 5", SYNTAX, 12);
        error("district a 5 ;;", SYNTAX, 14);
        error("district a 5 5;", SYNTAX, 13);
        error("district a5b;", SYNTAX, 11);
        error("district a -5;", SYNTAX, 11);
        error("district a 5;\tdistrict b 5;", SYNTAX, 13);
        error("district a 5;project p 5;", SYNTAX, 24);
        error("district a 5;project p 5 a 5;", SYNTAX, 27);
        error("district a 5;project p 5 a", SYNTAX, 26);
        error("district a 5;project p 5 abcdefg;", SYNTAX, 25);
        error("district a 5;voter in a;", SYNTAX, 19);
        error("district a 5;voter 1 a;", SYNTAX, 21);
        error("district a 5;voter 1 in;", SYNTAX, 23);
        error("district a 5;voter 1 in for;", SYNTAX, 24);
        error("district a 5;voter 1 in a for;", SYNTAX, 29);
        error("district a 5;project p 5 a;voter 1 in a for p for p;", SYNTAX, 46);
        error("district a 5;project p 5 a;voter 1 in a in a;", SYNTAX, 40);
        error("district a 5;project p 5 a for p;", SYNTAX, 27);
        error("set speed 1;", SYNTAX, 4);
        error("set 1;", SYNTAX, 4);
        error("set step;", SYNTAX, 8);
        error("set step 1 1;", SYNTAX, 11);
        error("set step 1", SYNTAX, 10);
        error("set step 1;%", SYNTAX, 11);
    }

    private static void otherErrors() {
        error("district a 100001;", RANGE, 11);
        error("district a 4294967296;", RANGE, 11);
        error("district a 18446744073709551616;", RANGE, 11);
        error("district a 5;project p 0 a;", RANGE, 23);
        error("district a 5;project p 000 a;", RANGE, 23);
        error("district a 5;project p 100001 a;", RANGE, 23);
        error("voter 0 in a;", RANGE, 6);
        error("voter 10 in a;", RANGE, 6);
        error("set worth 2;", RANGE, 10);
        error("set completion 3;", RANGE, 15);
        error("set step 0;", RANGE, 9);
        error("set step 1001;", RANGE, 9);
        error("set order 2;", RANGE, 10);
        error("district a 5;project p 5 b;", NAME, 25);
        error("district a 5;project p 5 p;", NAME, 25);
        error("district a 5;project p 5 a;project q 5 a p;", NAME, 41);
        error("voter 1 in a;district a 5;", NAME, 11);
        error("district a 5;voter 1 in a b;", NAME, 26);
        error("district a 5;voter 1 in a for a;", NAME, 30);
        error("district a 5;district a 100001;", DUPLICATE, 22);
        error("district a 5;project a 0;", DUPLICATE, 21);
        error("district a 5;project p 5 a;project p 5 a;", DUPLICATE, 35);
        error("district a 5;project p 5 a;district p 5;", DUPLICATE, 36);
        error("district a 5;project p 5 a a;", DUPLICATE, 27);
        error("district a 5;voter 1 in a a;", DUPLICATE, 26);
        error("district a 5;project p 5 a;voter 1 in a for p p;", DUPLICATE, 46);
        error("set step 1;set order 0;set step 1;", DUPLICATE, 27);
        error("district a 1;district b 1;district c 1;district d 1;district", COUNT, 52);
        StringBuilder projects = new StringBuilder("district a 1;");
        for (char p = 'b'; p < 'n'; p++) {
            projects.append("project ").append(p).append(" 1 a;");
        }
        error(projects + "set step 1;", 14, NONE);
        error(projects + "project district", COUNT, projects.length());
        String voters = "district a 1;" + "voter 1 in a;".repeat(24);
        error(voters, 25, NONE);
        error(voters + " voter", COUNT, voters.length() + 1);
        // in different statements the first one counts
        error("district a 100001;x", RANGE, 11);
        error("x;district a 100001;", SYNTAX, 0);
    }

    private static void errorPosition() {
        ParticipatoryBudget x = new ParticipatoryBudget();
        due(x.errorPosition(), NONE);
        due(load(x, "set step 0;"), RANGE);
        due(x.errorPosition(), 9);
        due(x.load(5), BAD);
        due(x.errorPosition(), 9);
        due(load(x, "set step 1;"), 1);
        due(x.errorPosition(), NONE);
        due(load(x, "set"), SYNTAX);
        due(x.errorPosition(), 3);
        due(x.load(0), 0);
        due(x.errorPosition(), NONE);
        due(x.load(-1), BAD);
        due(x.errorPosition(), NONE);
    }

    private static void districtCount() {
        due(loaded(EXAMPLE).districtCount(), 2);
        due(loaded("district a 1;district b 1;district c 1;district d 1;").districtCount(), 4);
    }

    private static void projectCount() {
        due(loaded(EXAMPLE).projectCount(), 3);
        due(loaded("district a 1;").projectCount(), 0);
    }

    private static void voterCount() {
        due(loaded(EXAMPLE).voterCount(), 4);
        due(loaded("district a 1;" + "voter 1 in a;".repeat(24)).voterCount(), 24);
    }

    private static void undoCount() {
        ParticipatoryBudget x = loaded(EXAMPLE);
        for (int i = 1; i <= 12; i++) {
            due(x.undoCount(), Math.min(10, i - 1));
            x.setCost(0, i);
        }
        due(x.undoCount(), 10);
        x.setCost(0, 0);
        x.setCost(3, 1);
        x.setSetting(4, 0);
        due(x.undoCount(), 10);
        x.undo();
        due(x.undoCount(), 9);
    }

    private static void districtNamed() {
        ParticipatoryBudget x = loaded("district a 1;district b 2;district zzzzzz 3;district az 4;project p 1 a;");
        due(x.districtNamed(1 << 25), 0);
        due(x.districtNamed(2 << 25), 1);
        due(x.districtNamed(letters("zzzzzz")), 2);
        due(x.districtNamed(letters("az")), 3);
        due(x.districtNamed(letters("p")), NONE);
        due(x.districtNamed(letters("zzzzz")), NONE);
        due(x.districtNamed(0), NONE);
        due(x.districtNamed(1), NONE);
        due(x.districtNamed(-1), NONE);
        due(x.districtNamed(1 << 25 | 1 << 30), NONE);
        due(x.districtNamed(1 << 25 | MIN), NONE);
        due(new ParticipatoryBudget().districtNamed(0), NONE);
    }

    private static void projectNamed() {
        ParticipatoryBudget x = loaded("district a 1;project xyz 1 a;project x 1 a;");
        due(x.projectNamed(letters("xyz")), 0);
        due(x.projectNamed(letters("x")), 1);
        due(x.projectNamed(letters("a")), NONE);
        due(x.projectNamed(letters("xy")), NONE);
        due(x.projectNamed(0), NONE);
        due(x.projectNamed(letters("x") | MIN), NONE);
    }

    private static void budgetOf() {
        ParticipatoryBudget x = loaded(EXAMPLE);
        due(x.budgetOf(0), 100);
        due(x.budgetOf(1), 60);
        noIndex(() -> x.budgetOf(2), () -> x.budgetOf(-1), () -> x.budgetOf(MAX), () -> x.budgetOf(MIN));
    }

    private static void costOf() {
        ParticipatoryBudget x = loaded(EXAMPLE);
        due(x.costOf(0), 50);
        due(x.costOf(2), 40);
        noIndex(() -> x.costOf(3), () -> x.costOf(-1), () -> x.costOf(12), () -> new ParticipatoryBudget().costOf(0));
    }

    private static void districtsOf() {
        ParticipatoryBudget x = loaded(EXAMPLE);
        due(x.districtsOf(0), 1);
        due(x.districtsOf(1), 3);
        due(x.districtsOf(2), 2);
        noIndex(() -> x.districtsOf(3), () -> x.districtsOf(-1));
    }

    private static void memberships() {
        ParticipatoryBudget x = loaded(EXAMPLE);
        due(x.memberships(0), 1);
        due(x.memberships(2), 3);
        due(x.memberships(3), 2);
        x.setMember(3, 1, false);
        due(x.memberships(3), 0);
        noIndex(() -> x.memberships(4), () -> x.memberships(-1), () -> x.memberships(24));
    }

    private static void approvals() {
        ParticipatoryBudget x = loaded(EXAMPLE);
        due(x.approvals(0), 3);
        due(x.approvals(1), 1);
        due(x.approvals(3), 4);
        noIndex(() -> x.approvals(4), () -> x.approvals(-1));
    }

    private static void weightOf() {
        ParticipatoryBudget x = loaded(EXAMPLE);
        due(x.weightOf(0), 1);
        due(x.weightOf(2), 2);
        noIndex(() -> x.weightOf(4), () -> x.weightOf(-1));
    }

    private static void getSetting() {
        ParticipatoryBudget x = loaded("set worth 1;set completion 2;set step 77;set order 1;");
        due(x.getSetting(ParticipatoryBudget.WORTH), 1);
        due(x.getSetting(ParticipatoryBudget.COMPLETION), 2);
        due(x.getSetting(ParticipatoryBudget.STEP), 77);
        due(x.getSetting(ParticipatoryBudget.ORDER), 1);
        due(x.getSetting(4), BAD);
        due(x.getSetting(-1), BAD);
        due(x.getSetting(MIN), BAD);
    }

    private static void supporters() {
        ParticipatoryBudget x = loaded(EXAMPLE);
        due(x.supporters(0), 3);
        due(x.supporters(1), 5);
        due(x.supporters(2), 12);
        // who is in none of its districts only approves it
        x.setApproval(0, 2, true);
        due(x.supporters(2), 12);
        x.setMember(0, 1, true);
        due(x.supporters(2), 13);
        x.setMember(2, 0, false);
        due(x.supporters(1), 5);
        x.setMember(2, 1, false);
        due(x.supporters(1), 1);
        noIndex(() -> x.supporters(3), () -> x.supporters(-1));
        due(loaded("district a 1;project p 1 a;" + "voter 1 in a;".repeat(23) + "voter 1 in a for p;").supporters(0), 1 << 23);
    }

    private static void votesFor() {
        ParticipatoryBudget x = loaded(EXAMPLE);
        due(x.votesFor(0), 2);
        due(x.votesFor(1), 3);
        due(x.votesFor(2), 3);
        x.setWeight(2, 9);
        due(x.votesFor(1), 10);
        x.setMember(2, 1, false);
        due(x.votesFor(2), 1);
        noIndex(() -> x.votesFor(3), () -> x.votesFor(-1));
    }

    private static void purse() {
        ParticipatoryBudget x = loaded(EXAMPLE);
        due(x.purse(0, 0), 25);
        due(x.purse(2, 0), 50);
        due(x.purse(2, 1), 40);
        due(x.purse(3, 1), 20);
        due(x.purse(0, 1), 0);
        x.setBudget(0, 99);
        due(x.purse(0, 0), 24);
        due(x.purse(2, 0), 49);
        x.setSetting(ParticipatoryBudget.COMPLETION, 2);
        due(x.purse(0, 0), 24);
        x.setMember(2, 1, false);
        x.setMember(3, 1, false);
        due(x.purse(2, 1), 0);
        noIndex(() -> x.purse(4, 0), () -> x.purse(-1, 0), () -> x.purse(0, 2), () -> x.purse(0, -1));
        due(loaded("district a 100000;voter 9 in a;").purse(0, 0), 100000);
    }

    private static void firstPrice() {
        ParticipatoryBudget x = loaded(EXAMPLE);
        due(x.firstPrice(0), 25);
        due(x.firstPrice(1), 20);
        due(x.firstPrice(2), 14);
        // the first voter has 10, the second one 90
        ParticipatoryBudget y = loaded("district a 10;district b 90;project p 60 a b;voter 1 in a for p;voter 1 in b for p;");
        due(y.firstPrice(0), 50);
        y.setCost(0, 61);
        due(y.firstPrice(0), 51);
        y.setCost(0, 20);
        due(y.firstPrice(0), 10);
        y.setCost(0, 21);
        due(y.firstPrice(0), 11);
        y.setCost(0, 1);
        due(y.firstPrice(0), 1);
        y.setCost(0, 100);
        due(y.firstPrice(0), 90);
        y.setCost(0, 101);
        due(y.firstPrice(0), NONE);
        due(loaded("district a 9;project p 5 a;voter 1 in a;").firstPrice(0), NONE);
        // 10 are too few by one with a price of 1; with 2 the heavy voter is out of means, but there is one to spare
        due(loaded("district a 10;district b 2;project p 11 a b;voter 9 in a for p;voter 1 in b for p;").firstPrice(0), 2);
        // it stays what it is without raise
        ParticipatoryBudget z = loaded(RAISED);
        due(z.firstPrice(0), NONE);
        z.setCost(0, 50);
        due(z.firstPrice(0), 50);
        ParticipatoryBudget w = loaded(TWO_ROUNDS);
        due(w.firstPrice(1), 22);
        noIndex(() -> x.firstPrice(3), () -> x.firstPrice(-1));
    }

    private static void funded() {
        ParticipatoryBudget x = loaded(EXAMPLE);
        due(x.funded(EQUAL), 6);
        due(x.funded(GREEDY), 6);
        due(x.funded(BEST), 7);
        due(x.funded(3), BAD);
        due(x.funded(-1), BAD);
        ParticipatoryBudget y = loaded(GREEDS);
        due(y.funded(GREEDY), 1);
        y.setSetting(ParticipatoryBudget.ORDER, 1);
        due(y.funded(GREEDY), 6);
        // purses of 50, 33 and 16: nobody can pay alone, and the completion is in the greedy order
        due(y.funded(EQUAL), 0);
        y.setSetting(ParticipatoryBudget.COMPLETION, 1);
        due(y.funded(EQUAL), 6);
        y.setSetting(ParticipatoryBudget.ORDER, 0);
        due(y.funded(EQUAL), 1);
        // 3 for x against 2 + 2, which cost less too
        due(y.funded(BEST), 6);
        y.setSetting(ParticipatoryBudget.WORTH, 1);
        due(y.funded(BEST), 1);
        // what has no votes is never funded
        ParticipatoryBudget z = loaded("district a 9;project p 5 a;voter 1 in a;set completion 1;");
        due(z.funded(EQUAL) + z.funded(GREEDY) + z.funded(BEST), 0);
        // of sets as good the one with less cost, then the lower one
        due(loaded("district a 9;project p 9 a;project q 8 a;project r 8 a;voter 1 in a for p q r;").funded(BEST), 2);
        ParticipatoryBudget w = loaded(OVERLAP);
        due(w.funded(BEST), 6);
        due(w.funded(GREEDY), 1);
        // as good, and x costs less
        w.setWeight(0, 4);
        due(w.funded(BEST), 1);
        w.setCost(0, 100);
        due(w.funded(BEST), 1);
    }

    private static void fundedAt() {
        ParticipatoryBudget x = loaded(EXAMPLE);
        due(x.fundedAt(EQUAL, 0), 2);
        due(x.fundedAt(EQUAL, 1), 1);
        due(x.fundedAt(EQUAL, 2), NONE);
        due(x.fundedAt(BEST, 0), 0);
        due(x.fundedAt(BEST, 2), 2);
        due(x.fundedAt(BEST, 3), NONE);
        due(x.fundedAt(GREEDY, 0), 2);
        due(x.fundedAt(GREEDY, 1), 1);
        due(x.fundedAt(GREEDY, 2), NONE);
        for (int rule = 0; rule < 3; rule++) {
            due(x.fundedAt(rule, -1), NONE);
            due(x.fundedAt(rule, MAX), NONE);
            due(x.fundedAt(rule, MIN), NONE);
        }
        due(x.fundedAt(3, 0), BAD);
        due(x.fundedAt(-1, -1), BAD);
        // with WORTH 1 the quotient of price and cost decides: 22 / 44 is less than 20 / 20
        ParticipatoryBudget y = loaded(TWO_ROUNDS);
        due(y.fundedAt(EQUAL, 0), 0);
        y.setSetting(ParticipatoryBudget.WORTH, 1);
        due(y.fundedAt(EQUAL, 0), 1);
        // at the same price more votes, then the lower index
        ParticipatoryBudget z = loaded("district a 100;project p 10 a;project q 20 a;project r 10 a;voter 1 in a for p r;voter 2 in a for q;");
        due(z.fundedAt(EQUAL, 0), 1);
        due(z.fundedAt(EQUAL, 1), 0);
        due(z.fundedAt(EQUAL, 2), 2);
        // the greedy order: less cost at the same votes, or at the same quotient
        due(z.fundedAt(GREEDY, 1), 0);
        z.setCost(2, 9);
        due(z.fundedAt(GREEDY, 0), 1);
        due(z.fundedAt(GREEDY, 1), 2);
        z.setSetting(ParticipatoryBudget.ORDER, 1);
        due(z.fundedAt(GREEDY, 0), 2);
        due(z.fundedAt(GREEDY, 1), 0);
        due(z.fundedAt(GREEDY, 2), 1);
        // the completion comes behind the rounds
        x.setSetting(ParticipatoryBudget.COMPLETION, 1);
        x.setCost(0, 40);
        due(x.fundedAt(EQUAL, 2), 0);
        due(x.fundedAt(EQUAL, 3), NONE);
    }

    private static void priceOf() {
        ParticipatoryBudget x = loaded(EXAMPLE);
        due(x.priceOf(2), 14);
        due(x.priceOf(1), 20);
        due(x.priceOf(0), NONE);
        ParticipatoryBudget y = loaded(TWO_ROUNDS);
        due(y.priceOf(0), 20);
        due(y.priceOf(1), 29);
        due(loaded(WEIGHTS).priceOf(0), 6);
        due(loaded(RAISED).priceOf(0), 80);
        // the completion funds at no price
        x.setSetting(ParticipatoryBudget.COMPLETION, 1);
        x.setCost(0, 40);
        due(x.funded(EQUAL), 7);
        due(x.priceOf(0), NONE);
        noIndex(() -> x.priceOf(3), () -> x.priceOf(-1));
    }

    private static void paidBy() {
        ParticipatoryBudget x = loaded(EXAMPLE);
        due(x.paidBy(2, 2), 27);
        due(x.paidBy(2, 3), 13);
        due(x.paidBy(1, 0), 20);
        due(x.paidBy(1, 1), 0);
        due(x.paidBy(0, 0), 0);
        // 36 at a price of 6, so 5 too much: 3 off from the last voter, and 2 from the one before
        ParticipatoryBudget y = loaded(WEIGHTS);
        due(y.paidBy(0, 0), 6);
        due(y.paidBy(0, 1), 10);
        due(y.paidBy(0, 2), 15);
        y.setCost(0, 34);
        due(y.paidBy(0, 0), 6);
        due(y.paidBy(0, 1), 12);
        due(y.paidBy(0, 2), 16);
        // at a price of 1 the last ones pay nothing
        y.setCost(0, 1);
        due(y.paidBy(0, 0), 1);
        due(y.paidBy(0, 1), 0);
        due(y.paidBy(0, 2), 0);
        ParticipatoryBudget z = loaded("district a 10;district b 90;project p 60 a b;voter 1 in a for p;voter 1 in b for p;");
        due(z.paidBy(0, 0), 10);
        due(z.paidBy(0, 1), 50);
        // the completion is paid by no voter
        x.setSetting(ParticipatoryBudget.COMPLETION, 1);
        x.setCost(0, 40);
        due(x.paidBy(0, 0) + x.paidBy(0, 1), 0);
        noIndex(() -> x.paidBy(3, 0), () -> x.paidBy(-1, 0), () -> x.paidBy(0, 4), () -> x.paidBy(0, -1));
    }

    private static void paidFrom() {
        ParticipatoryBudget x = loaded(EXAMPLE);
        due(x.paidFrom(EQUAL, 2, 1), 40);
        due(x.paidFrom(EQUAL, 2, 0), 0);
        due(x.paidFrom(EQUAL, 1, 0), 60);
        due(x.paidFrom(EQUAL, 1, 1), 0);
        due(x.paidFrom(EQUAL, 0, 0), 0);
        due(x.paidFrom(GREEDY, 1, 0), 60);
        due(x.paidFrom(GREEDY, 2, 1), 40);
        due(x.paidFrom(GREEDY, 0, 0), 0);
        due(x.paidFrom(BEST, 0, 0), BAD);
        due(x.paidFrom(-1, 0, 0), BAD);
        // z takes 40 of b first
        x.setCost(1, 121);
        due(x.paidFrom(GREEDY, 1, 0), 0);
        x.setCost(1, 115);
        due(x.paidFrom(GREEDY, 1, 0), 100);
        due(x.paidFrom(GREEDY, 1, 1), 15);
        // of what the rounds have left, with COMPLETION 1: purses of 10 and 20 pay 25
        ParticipatoryBudget y = loaded("district a 10;district b 20;project p 25 a b;voter 1 in a b for p;set completion 1;");
        due(y.paidFrom(EQUAL, 0, 0), 10);
        due(y.paidFrom(EQUAL, 0, 1), 15);
        ParticipatoryBudget z = loaded("district a 10;district b 20;project p 25 a b;project q 5 a b;voter 1 in a b for p;voter 1 in a b for q;set completion 1;");
        due(z.roundOf(1), 0);
        due(z.paidFrom(EQUAL, 1, 0), 5);
        due(z.paidFrom(EQUAL, 0, 0), 5);
        due(z.paidFrom(EQUAL, 0, 1), 20);
        noIndex(() -> x.paidFrom(0, 3, 0), () -> x.paidFrom(0, -1, 0), () -> x.paidFrom(0, 0, 2), () -> x.paidFrom(0, 0, -1),
                () -> x.paidFrom(BEST, 3, 0), () -> x.paidFrom(BEST, 0, 2));
    }

    private static void leftOf() {
        ParticipatoryBudget x = loaded(EXAMPLE);
        due(x.leftOf(EQUAL, 0), 40);
        due(x.leftOf(EQUAL, 1), 20);
        due(x.leftOf(GREEDY, 0), 40);
        due(x.leftOf(GREEDY, 1), 20);
        due(x.leftOf(BEST, 0), BAD);
        due(x.leftOf(-1, 0), BAD);
        x.setSetting(ParticipatoryBudget.COMPLETION, 1);
        x.setCost(0, 30);
        due(x.leftOf(EQUAL, 0), 10);
        due(x.leftOf(GREEDY, 0), 10);
        ParticipatoryBudget y = loaded(RAISED);
        due(y.leftOf(EQUAL, 0), 20);
        due(y.leftOf(GREEDY, 0), 20);
        noIndex(() -> x.leftOf(0, 2), () -> x.leftOf(0, -1), () -> x.leftOf(BEST, 2));
    }

    private static void purseLeft() {
        ParticipatoryBudget x = loaded(EXAMPLE);
        due(x.purseLeft(0, 0), 5);
        due(x.purseLeft(1, 0), 25);
        due(x.purseLeft(2, 0), 10);
        due(x.purseLeft(2, 1), 13);
        due(x.purseLeft(3, 1), 7);
        due(x.purseLeft(3, 0), 0);
        // the completion takes nothing from purses
        x.setSetting(ParticipatoryBudget.COMPLETION, 1);
        x.setCost(0, 40);
        due(x.purseLeft(1, 0), 25);
        ParticipatoryBudget y = loaded(RAISED);
        due(y.purseLeft(0, 0), 0);
        due(y.purseLeft(1, 0), 80);
        y.setMember(1, 0, false);
        due(y.purseLeft(1, 0), 0);
        noIndex(() -> x.purseLeft(4, 0), () -> x.purseLeft(-1, 0), () -> x.purseLeft(0, 2), () -> x.purseLeft(0, -1));
    }

    private static void meansLeft() {
        ParticipatoryBudget x = loaded(EXAMPLE);
        due(x.meansLeft(0), 30);
        due(x.meansLeft(1), 28);
        due(x.meansLeft(2), 20);
        due(loaded(RAISED).meansLeft(0), 0);
        due(loaded(TWO_ROUNDS).meansLeft(1), 6);
        due(loaded("district a 9;project p 5 a;voter 1 in a;").meansLeft(0), 0);
        noIndex(() -> x.meansLeft(3), () -> x.meansLeft(-1));
    }

    private static void raises() {
        ParticipatoryBudget x = loaded(RAISED);
        due(x.raises(), 3);
        // 100 may be paid, 101 not
        x.setCost(0, 100);
        due(x.raises(), 5);
        due(x.funded(EQUAL), 1);
        x.setCost(0, 101);
        due(x.raises(), 5);
        due(x.funded(EQUAL), 0);
        due(x.purseLeft(0, 0), 100);
        x.setCost(0, 50);
        due(x.raises(), 0);
        // 60 raises and no more
        x.setSetting(ParticipatoryBudget.STEP, 1);
        x.setBudget(0, 120);
        x.setCost(0, 120);
        due(x.raises(), 60);
        due(x.funded(EQUAL), 1);
        x.setBudget(0, 118);
        due(x.raises(), 60);
        due(x.funded(EQUAL), 0);
        due(x.purseLeft(1, 0), 119);
        x.setSetting(ParticipatoryBudget.COMPLETION, 1);
        due(x.raises(), 0);
        x.setSetting(ParticipatoryBudget.COMPLETION, 0);
        due(x.raises(), 0);
        // where nobody votes, all is funded that has votes
        due(loaded("district a 9;project p 5 a;voter 1 in a;set completion 2;").raises(), 0);
        // the first raise is too much already
        ParticipatoryBudget y = loaded("district a 9;project p 10 a;project q 3 a;voter 1 in a for p q;set completion 2;set step 9;");
        due(y.raises(), 0);
        due(y.funded(EQUAL), 2);
        due(y.purseLeft(0, 0), 6);
    }

    private static void completed() {
        ParticipatoryBudget x = loaded(EXAMPLE);
        due(x.completed(), 0);
        x.setSetting(ParticipatoryBudget.COMPLETION, 1);
        due(x.completed(), 0);
        x.setCost(0, 40);
        due(x.completed(), 1);
        due(loaded(RAISED).completed(), 1);
        ParticipatoryBudget y = loaded(GREEDS);
        y.setSetting(ParticipatoryBudget.COMPLETION, 1);
        y.setSetting(ParticipatoryBudget.ORDER, 1);
        due(y.completed(), 2);
    }

    private static void totalCost() {
        ParticipatoryBudget x = loaded(EXAMPLE);
        due(x.totalCost(EQUAL), 100);
        due(x.totalCost(GREEDY), 100);
        due(x.totalCost(BEST), 150);
        due(x.totalCost(3), BAD);
        due(x.totalCost(-1), BAD);
    }

    private static void welfare() {
        ParticipatoryBudget x = loaded(EXAMPLE);
        due(x.welfare(EQUAL), 6);
        due(x.welfare(GREEDY), 6);
        due(x.welfare(BEST), 8);
        x.setSetting(ParticipatoryBudget.WORTH, 1);
        due(x.welfare(BEST), 400);
        due(x.welfare(3), BAD);
        due(x.welfare(-1), BAD);
        due(welfareOfAll(), 216L * 1200000 / 3);
    }

    /** Four projects at 100000 can be paid of twelve, and all 24 voters of weight 9 support them. */
    private static long welfareOfAll() {
        StringBuilder text = new StringBuilder("set worth 1;district a 100000;district b 100000;district c 100000;district d 100000;");
        for (char p = 'e'; p < 'q'; p++) {
            text.append("project ").append(p).append(" 100000 a b c d;");
        }
        ParticipatoryBudget x = loaded(text + "voter 9 in a;".repeat(24));
        for (int v = 0; v < 24; v++) {
            for (int p = 0; p < 12; p++) {
                x.setApproval(v, p, true);
            }
        }
        due(x.funded(BEST), 15);
        return x.welfare(BEST);
    }

    private static void satisfaction() {
        ParticipatoryBudget x = loaded(EXAMPLE);
        due(x.satisfaction(EQUAL, 0), 1);
        due(x.satisfaction(EQUAL, 1), 0);
        due(x.satisfaction(EQUAL, 2), 2);
        due(x.satisfaction(BEST, 0), 2);
        due(x.satisfaction(GREEDY, 3), 1);
        x.setSetting(ParticipatoryBudget.WORTH, 1);
        due(x.satisfaction(BEST, 0), 110);
        x.setApproval(0, 2, true);
        due(x.satisfaction(BEST, 0), 110);
        due(x.satisfaction(3, 0), BAD);
        due(x.satisfaction(-1, 0), BAD);
        noIndex(() -> x.satisfaction(0, 4), () -> x.satisfaction(0, -1), () -> x.satisfaction(3, 4));
    }

    private static void worstOff() {
        ParticipatoryBudget x = loaded(EXAMPLE);
        due(x.worstOff(EQUAL), 1);
        due(x.worstOff(BEST), 1);
        due(x.worstOff(GREEDY), 1);
        x.setApproval(1, 0, false);
        x.setApproval(0, 0, false);
        x.setApproval(0, 1, false);
        due(x.worstOff(EQUAL), 0);
        due(x.worstOff(3), BAD);
        due(new ParticipatoryBudget().worstOff(-1), BAD);
        due(new ParticipatoryBudget().worstOff(BEST), NONE);
    }

    private static void leftOut() {
        ParticipatoryBudget x = loaded(EXAMPLE);
        due(x.leftOut(EQUAL), 2);
        due(x.leftOut(GREEDY), 2);
        due(x.leftOut(BEST), 0);
        x.setMember(3, 1, false);
        due(x.leftOut(BEST), 8);
        due(x.leftOut(3), BAD);
        due(x.leftOut(-1), BAD);
        due(loaded("district a 1;" + "voter 1 in a;".repeat(24)).leftOut(EQUAL), (1 << 24) - 1);
    }

    private static void claimOf() {
        ParticipatoryBudget x = loaded(EXAMPLE);
        due(x.claimOf(EQUAL, 0), 25);
        due(x.claimOf(EQUAL, 1), 0);
        due(x.claimOf(BEST, 0), 0);
        due(x.claimOf(3, 0), BAD);
        due(x.claimOf(-1, 0), BAD);
        // of two purses of a claimant only those for the districts of the project count, and none is raised
        ParticipatoryBudget y = loaded("district a 30;district b 50;project p 99 a;project q 99 a b;voter 1 in a b for p q;voter 2 in a;set completion 2;");
        due(y.claimOf(EQUAL, 0), 10);
        due(y.claimOf(EQUAL, 1), 60);
        noIndex(() -> x.claimOf(0, 3), () -> x.claimOf(0, -1), () -> x.claimOf(3, 3));
    }

    private static void unjust() {
        ParticipatoryBudget x = loaded(GREEDS);
        due(x.unjust(EQUAL), NONE);
        due(x.unjust(GREEDY), NONE);
        // the second voter holds 33 of 100
        x.setCost(2, 33);
        due(x.funded(GREEDY), 1);
        due(x.unjust(GREEDY), 2);
        x.setCost(1, 33);
        due(x.unjust(GREEDY), 1);
        x.setCost(1, 20);
        due(x.claimOf(GREEDY, 1), 33);
        due(x.unjust(GREEDY), 1);
        x.setCost(1, 34);
        x.setCost(2, 34);
        due(x.unjust(GREEDY), NONE);
        x.setCost(1, 10);
        due(x.funded(EQUAL), 2);
        due(x.unjust(EQUAL), NONE);
        // the first voter holds 50
        x.setCost(0, 50);
        x.setBudget(0, 99);
        due(x.unjust(BEST), NONE);
        due(x.unjust(3), BAD);
        due(x.unjust(-1), BAD);
    }

    private static void changedWithout() {
        ParticipatoryBudget x = loaded(EXAMPLE);
        due(x.changedWithout(1), 0);
        // without the third voter z is too dear, and the first one pays for x with the second
        due(x.changedWithout(2), 7);
        due(x.approvals(2), 6);
        due(x.undoCount(), 0);
        due(x.funded(EQUAL), 6);
        ParticipatoryBudget y = loaded(RAISED);
        due(y.changedWithout(0), 1);
        due(y.changedWithout(1), 0);
        // the purses stay as they are: the one of 50 is not 100 then
        y.setSetting(ParticipatoryBudget.COMPLETION, 0);
        y.setApproval(1, 0, true);
        due(y.funded(EQUAL), 1);
        due(y.changedWithout(1), 1);
        noIndex(() -> x.changedWithout(4), () -> x.changedWithout(-1));
    }

    private static void greedyLimit() {
        ParticipatoryBudget x = loaded(EXAMPLE);
        due(x.greedyLimit(0), 40);
        due(x.greedyLimit(1), 120);
        due(x.greedyLimit(2), 60);
        due(x.costOf(0), 50);
        ParticipatoryBudget y = loaded(GREEDS);
        due(y.greedyLimit(0), 100);
        due(y.greedyLimit(1), 10);
        // with ORDER 1 x comes first as long as 3 / cost is more than 2 / 40, or it fits behind the others
        y.setSetting(ParticipatoryBudget.ORDER, 1);
        due(y.greedyLimit(0), 59);
        y.setBudget(0, 0);
        due(y.greedyLimit(0), NONE);
        y.setBudget(0, 100);
        y.setApproval(0, 0, false);
        due(y.greedyLimit(0), NONE);
        due(loaded("district a 100000;district b 5;project p 1 a b;voter 1 in a for p;").greedyLimit(0), 100000);
        due(loaded("district a 1;project p 7 a;voter 1 in a for p;").greedyLimit(0), 1);
        noIndex(() -> x.greedyLimit(3), () -> x.greedyLimit(-1));
    }

    private static void canBePaid() {
        ParticipatoryBudget x = loaded(OVERLAP);
        due(x.canBePaid(0), true);
        due(x.canBePaid(1), true);
        due(x.canBePaid(2), true);
        due(x.canBePaid(3), false);
        due(x.canBePaid(6), true);
        due(x.canBePaid(7), false);
        x.setCost(1, 40);
        due(x.canBePaid(3), true);
        x.setCost(1, 51);
        due(x.canBePaid(2), false);
        due(x.canBePaid(8), false);
        due(x.canBePaid(9), false);
        due(x.canBePaid(MIN), false);
        due(x.canBePaid(-1), false);
        due(new ParticipatoryBudget().canBePaid(0), true);
        due(new ParticipatoryBudget().canBePaid(1), false);
        // two districts together can fail where each one suffices
        ParticipatoryBudget y = loaded("district a 5;district b 5;district c 99;project p 9 a b;project q 4 b a;project r 90 c a;");
        due(y.canBePaid(1), true);
        due(y.canBePaid(3), false);
        due(y.canBePaid(5), true);
        due(y.canBePaid(6), true);
    }

    private static void common() {
        ParticipatoryBudget x = loaded(EXAMPLE);
        due(x.common(EQUAL, BEST), 6);
        due(x.common(BEST, BEST), 7);
        due(x.common(GREEDY, EQUAL), 6);
        due(loaded(OVERLAP).common(GREEDY, BEST), 0);
        due(x.common(0, 3), BAD);
        due(x.common(3, 0), BAD);
        due(x.common(-1, -1), BAD);
    }

    private static void spread() {
        ParticipatoryBudget x = loaded(EXAMPLE);
        due(x.spread(EQUAL), 2);
        due(x.spread(BEST), 1);
        x.setSetting(ParticipatoryBudget.WORTH, 1);
        due(x.spread(BEST), 70);
        due(x.spread(3), BAD);
        due(x.spread(-1), BAD);
        due(loaded("district a 1;").spread(EQUAL), 0);
    }

    private static void loss() {
        ParticipatoryBudget x = loaded(EXAMPLE);
        due(x.loss(EQUAL), 2);
        due(x.loss(GREEDY), 2);
        due(x.loss(BEST), 0);
        due(loaded(OVERLAP).loss(GREEDY), 1);
        due(x.loss(3), BAD);
        due(x.loss(-1), BAD);
    }

    private static void bestWithout() {
        ParticipatoryBudget x = loaded(EXAMPLE);
        due(x.bestWithout(0), 6);
        due(x.bestWithout(1), 5);
        due(x.bestWithout(2), 5);
        ParticipatoryBudget y = loaded(OVERLAP);
        due(y.bestWithout(0), 4);
        due(y.bestWithout(1), 3);
        y.setSetting(ParticipatoryBudget.WORTH, 1);
        due(y.bestWithout(1), 180);
        due(loaded("district a 1;project p 1 a;voter 1 in a for p;").bestWithout(0), 0);
        noIndex(() -> x.bestWithout(3), () -> x.bestWithout(-1));
    }

    private static void endowment() {
        ParticipatoryBudget x = loaded(EXAMPLE);
        due(x.endowment(2), 90);
        due(x.endowment(0), 25);
        x.setMember(0, 0, false);
        due(x.endowment(0), 0);
        due(loaded(RAISED).endowment(0), 50);
        noIndex(() -> x.endowment(4), () -> x.endowment(-1));
    }

    private static void spentBy() {
        ParticipatoryBudget x = loaded(EXAMPLE);
        due(x.spentBy(0), 20);
        due(x.spentBy(1), 0);
        due(x.spentBy(2), 67);
        due(x.spentBy(3), 13);
        x.setSetting(ParticipatoryBudget.COMPLETION, 1);
        x.setCost(0, 40);
        due(x.spentBy(1), 0);
        due(loaded(RAISED).spentBy(0), 80);
        noIndex(() -> x.spentBy(4), () -> x.spentBy(-1));
    }

    private static void payers() {
        ParticipatoryBudget x = loaded(EXAMPLE);
        due(x.payers(0), 0);
        due(x.payers(1), 5);
        due(x.payers(2), 12);
        ParticipatoryBudget y = loaded(WEIGHTS);
        due(y.payers(0), 7);
        y.setCost(0, 2);
        due(y.payers(0), 3);
        noIndex(() -> x.payers(3), () -> x.payers(-1));
    }

    private static void roundOf() {
        ParticipatoryBudget x = loaded(EXAMPLE);
        due(x.roundOf(2), 0);
        due(x.roundOf(1), 1);
        due(x.roundOf(0), NONE);
        x.setSetting(ParticipatoryBudget.COMPLETION, 1);
        x.setCost(0, 40);
        due(x.roundOf(0), NONE);
        due(loaded(RAISED).roundOf(0), 0);
        noIndex(() -> x.roundOf(3), () -> x.roundOf(-1));
    }

    private static void commonSupport() {
        ParticipatoryBudget x = loaded(EXAMPLE);
        due(x.commonSupport(0, 1), 1);
        due(x.commonSupport(1, 2), 1);
        due(x.commonSupport(0, 2), 0);
        due(x.commonSupport(0, 0), 2);
        x.setApproval(1, 2, true);
        due(x.commonSupport(0, 2), 0);
        noIndex(() -> x.commonSupport(3, 0), () -> x.commonSupport(0, 3), () -> x.commonSupport(-1, 0), () -> x.commonSupport(0, -1));
    }

    private static void priceIn() {
        ParticipatoryBudget x = loaded(TWO_ROUNDS);
        due(x.priceIn(0, 0), 20);
        due(x.priceIn(1, 0), 22);
        due(x.priceIn(0, 1), NONE);
        due(x.priceIn(1, 1), 29);
        due(x.priceIn(0, 2), NONE);
        due(x.priceIn(1, 2), NONE);
        due(x.priceIn(0, 3), BAD);
        due(x.priceIn(0, -1), BAD);
        due(x.priceIn(0, MAX), BAD);
        x.setCost(1, 60);
        due(x.priceIn(1, 0), 30);
        due(x.priceIn(1, 1), NONE);
        due(x.priceIn(1, 2), BAD);
        ParticipatoryBudget y = loaded(RAISED);
        due(y.priceIn(0, 0), 80);
        due(y.priceIn(0, 1), NONE);
        due(y.priceIn(0, 2), BAD);
        // the rounds of the completion are none
        x.setSetting(ParticipatoryBudget.COMPLETION, 1);
        x.setCost(1, 50 - 1);
        due(x.priceIn(1, 1), 34);
        x.setCost(1, 51);
        due(x.priceIn(1, 2), BAD);
        noIndex(() -> x.priceIn(2, 0), () -> x.priceIn(-1, 0), () -> x.priceIn(2, -1));
    }

    private static void fundedWithBudget() {
        ParticipatoryBudget x = loaded(EXAMPLE);
        due(x.fundedWithBudget(0, 0), 4);
        due(x.fundedWithBudget(0, 200), 7);
        due(x.fundedWithBudget(0, 100), 6);
        due(x.fundedWithBudget(1, 100000), 6);
        due(x.fundedWithBudget(0, -1), BAD);
        due(x.fundedWithBudget(0, 100001), BAD);
        due(x.budgetOf(0), 100);
        due(x.undoCount(), 0);
        due(x.funded(EQUAL), 6);
        ParticipatoryBudget y = loaded(RAISED);
        due(y.fundedWithBudget(0, 79), 0);
        due(y.fundedWithBudget(0, 80), 1);
        noIndex(() -> x.fundedWithBudget(2, 0), () -> x.fundedWithBudget(-1, 0), () -> x.fundedWithBudget(2, -1));
    }

    private static void fundedWithCost() {
        ParticipatoryBudget x = loaded(EXAMPLE);
        due(x.fundedWithCost(0, 30), 7);
        // from 39 on its price is no longer less than that of y
        due(x.fundedWithCost(0, 38), 7);
        due(x.fundedWithCost(0, 39), 6);
        due(x.fundedWithCost(2, 100000), 2);
        due(x.fundedWithCost(0, 0), BAD);
        due(x.fundedWithCost(0, 100001), BAD);
        due(x.costOf(0), 50);
        due(x.funded(EQUAL), 6);
        noIndex(() -> x.fundedWithCost(3, 1), () -> x.fundedWithCost(-1, 1), () -> x.fundedWithCost(3, 0));
    }

    private static void fundedWithout() {
        ParticipatoryBudget x = loaded(EXAMPLE);
        due(x.fundedWithout(1), 5);
        due(x.fundedWithout(0), 6);
        due(x.fundedWithout(2), 2);
        due(x.supporters(1), 5);
        ParticipatoryBudget y = loaded(RAISED);
        due(y.fundedWithout(0), 0);
        noIndex(() -> x.fundedWithout(3), () -> x.fundedWithout(-1));
    }

    private static void cheapestSet() {
        ParticipatoryBudget x = loaded(EXAMPLE);
        due(x.cheapestSet(0), 0);
        due(x.cheapestSet(1), 4);
        due(x.cheapestSet(3), 4);
        due(x.cheapestSet(4), 5);
        due(x.cheapestSet(6), 6);
        due(x.cheapestSet(8), 7);
        due(x.cheapestSet(9), NONE);
        due(x.cheapestSet(MAX), NONE);
        due(x.cheapestSet(-1), BAD);
        due(x.cheapestSet(MIN), BAD);
        ParticipatoryBudget y = loaded(OVERLAP);
        due(y.cheapestSet(2), 2);
        due(y.cheapestSet(3), 1);
        due(y.cheapestSet(4), 6);
        due(y.cheapestSet(5), NONE);
        // what has no votes can still be in no cheapest set, and of equal ones the lower set is taken
        due(loaded("district a 9;project p 1 a;project q 5 a;project r 5 a;voter 1 in a for q r;").cheapestSet(1), 2);
    }

    private static void districtWelfare() {
        ParticipatoryBudget x = loaded(EXAMPLE);
        due(x.districtWelfare(EQUAL, 0), 3);
        due(x.districtWelfare(EQUAL, 1), 3);
        due(x.districtWelfare(BEST, 0), 5);
        x.setSetting(ParticipatoryBudget.WORTH, 1);
        due(x.districtWelfare(BEST, 1), 140);
        due(x.districtWelfare(3, 0), BAD);
        due(x.districtWelfare(-1, 0), BAD);
        noIndex(() -> x.districtWelfare(0, 2), () -> x.districtWelfare(0, -1), () -> x.districtWelfare(3, 2));
    }

    private static void rankOf() {
        ParticipatoryBudget x = loaded(EXAMPLE);
        due(x.rankOf(EQUAL, 2), 0);
        due(x.rankOf(EQUAL, 0), 1);
        due(x.rankOf(EQUAL, 3), 2);
        due(x.rankOf(EQUAL, 1), 3);
        due(x.rankOf(BEST, 0), 0);
        due(x.rankOf(BEST, 2), 1);
        due(x.rankOf(3, 0), BAD);
        due(x.rankOf(-1, 0), BAD);
        noIndex(() -> x.rankOf(0, 4), () -> x.rankOf(0, -1), () -> x.rankOf(3, 4));
    }

    private static void richest() {
        ParticipatoryBudget x = loaded(EXAMPLE);
        due(x.richest(), 1);
        x.setMember(1, 0, false);
        x.setApproval(2, 1, false);
        due(x.richest(), 2);
        due(loaded(RAISED).richest(), 1);
        due(loaded("district a 8;voter 1 in a;voter 1 in a;").richest(), 0);
        due(loaded("district a 0;voter 1 in a;voter 1 in a;").richest(), 0);
        due(loaded("district a 0;").richest(), NONE);
    }

    private static void setBudget() {
        ParticipatoryBudget x = loaded(EXAMPLE);
        due(x.setBudget(0, 200), 100);
        due(x.budgetOf(0), 200);
        due(x.funded(EQUAL), 7);
        due(x.setBudget(0, 200), 200);
        due(x.undoCount(), 2);
        due(x.setBudget(1, 0), 60);
        due(x.setBudget(1, 100000), 0);
        due(x.setBudget(1, 100001), BAD);
        due(x.setBudget(1, -1), BAD);
        due(x.setBudget(2, 5), NONE);
        due(x.setBudget(-1, -1), NONE);
        due(x.budgetOf(1), 100000);
        due(x.undoCount(), 4);
    }

    private static void setCost() {
        ParticipatoryBudget x = loaded(EXAMPLE);
        due(x.setCost(0, 30), 50);
        due(x.costOf(0), 30);
        due(x.funded(EQUAL), 7);
        due(x.setCost(0, 1), 30);
        due(x.setCost(0, 100000), 1);
        due(x.setCost(0, 0), BAD);
        due(x.setCost(0, 100001), BAD);
        due(x.setCost(3, 5), NONE);
        due(x.setCost(-1, 0), NONE);
        due(x.undoCount(), 3);
    }

    private static void setWeight() {
        ParticipatoryBudget x = loaded(EXAMPLE);
        due(x.setWeight(2, 9), 2);
        due(x.weightOf(2), 9);
        due(x.votesFor(2), 10);
        due(x.purse(0, 0), 9);
        due(x.setWeight(2, 1), 9);
        due(x.setWeight(2, 0), BAD);
        due(x.setWeight(2, 10), BAD);
        due(x.setWeight(4, 5), NONE);
        due(x.setWeight(-1, 0), NONE);
        due(x.undoCount(), 2);
    }

    private static void setMember() {
        ParticipatoryBudget x = loaded(EXAMPLE);
        due(x.setMember(0, 1, true), 3);
        due(x.memberships(0), 3);
        due(x.purse(0, 1), 15);
        due(x.setMember(0, 0, false), 2);
        due(x.setMember(0, 1, false), 0);
        due(x.setMember(0, 1, false), 0);
        due(x.setMember(1, 0, true), 1);
        due(x.undoCount(), 5);
        due(x.setMember(4, 0, true), NONE);
        due(x.setMember(-1, 0, true), NONE);
        due(x.setMember(0, 2, true), NONE);
        due(x.setMember(0, -1, true), NONE);
        due(x.undoCount(), 5);
    }

    private static void setApproval() {
        ParticipatoryBudget x = loaded(EXAMPLE);
        due(x.setApproval(1, 1, true), 4);
        due(x.approvals(1), 3);
        due(x.setApproval(2, 1, false), 2);
        // an approval from outside its districts gives no votes
        due(x.setApproval(0, 2, true), 3);
        due(x.approvals(0), 7);
        due(x.setApproval(0, 2, true), 3);
        due(x.undoCount(), 4);
        due(x.setApproval(4, 0, true), NONE);
        due(x.setApproval(-1, 0, true), NONE);
        due(x.setApproval(0, 3, true), NONE);
        due(x.setApproval(0, -1, true), NONE);
        due(x.undoCount(), 4);
    }

    private static void setSetting() {
        ParticipatoryBudget x = loaded(EXAMPLE);
        int[] least = {0, 0, 1, 0};
        int[] most = {1, 2, 1000, 1};
        int[] first = {0, 0, 10, 0};
        for (int s = 0; s < 4; s++) {
            due(x.setSetting(s, most[s]), first[s]);
            due(x.getSetting(s), most[s]);
            due(x.setSetting(s, least[s]), most[s]);
            due(x.setSetting(s, least[s] - 1), BAD);
            due(x.setSetting(s, most[s] + 1), BAD);
            due(x.setSetting(s, MIN), BAD);
            due(x.getSetting(s), least[s]);
        }
        due(x.undoCount(), 8);
        due(x.setSetting(4, 0), BAD);
        due(x.setSetting(-1, 0), BAD);
        due(x.undoCount(), 8);
    }

    private static void undo() {
        ParticipatoryBudget x = loaded(EXAMPLE);
        x.setBudget(0, 5);
        x.setCost(1, 6);
        x.setWeight(2, 7);
        x.setMember(3, 0, true);
        x.setApproval(0, 2, true);
        x.setSetting(ParticipatoryBudget.COMPLETION, 2);
        due(x.undo(), 5);
        due(x.getSetting(ParticipatoryBudget.COMPLETION), 0);
        due(x.undo(), 4);
        due(x.approvals(0), 3);
        due(x.undo(), 3);
        due(x.memberships(3), 2);
        due(x.undo(), 2);
        due(x.weightOf(2), 2);
        due(x.undo(), 1);
        due(x.costOf(1), 60);
        due(x.undo(), 0);
        due(x.budgetOf(0), 100);
        due(x.undo(), NONE);
        due(x.funded(EQUAL), 6);
        due(x.funded(BEST), 7);
        due(x.supporters(2), 12);
        // the latest ten are kept
        for (int i = 1; i <= 13; i++) {
            x.setCost(0, i);
        }
        for (int i = 9; i >= 0; i--) {
            due(x.undo(), i);
        }
        due(x.costOf(0), 3);
        due(x.undo(), NONE);
        due(x.costOf(0), 3);
        // a setting to the same value is undone by itself
        x.setCost(0, 3);
        due(x.undo(), 0);
        due(new ParticipatoryBudget().undo(), NONE);
    }
}
