/** Sentences of the promises 22 to 58, of what the rules decide, each with the cases at its edges. */
final class RuleBoundaries extends Sentences {
    /** Without raise q is funded alone; with the one raise that counts p is. */
    private static final String LOST = "district a 5;project p 4 a;project q 3 a;voter 2 in a for p q;voter 1 in a;set completion 2;set step 2;";
    /** Purses of 50, 33 and 16; GREEDY funds p, or q and r with ORDER 1; EQUAL funds none. */
    private static final String GREEDS = "district a 100;project p 90 a;project q 40 a;project r 40 a;voter 3 in a for p;voter 2 in a for q r;voter 1 in a;";
    /** Purses of 10, 20 and 30; p is for all. */
    private static final String WEIGHTS = "district a 60;project p 31 a;voter 1 in a for p;voter 2 in a for p;voter 3 in a for p;";
    /** Twelve projects of 1, and one voter who has 12 for all of them. */
    private static final String TWELVE = "district a 12;" + projects(12, "1 a") + "voter 1 in a for m n o p q r s t u v w x;";

    static final Call[] TESTS = {RuleBoundaries::funded, RuleBoundaries::fundedAt, RuleBoundaries::priceOf, RuleBoundaries::paidBy,
        RuleBoundaries::paidFrom, RuleBoundaries::leftOf, RuleBoundaries::pursesBehind, RuleBoundaries::raises,
        RuleBoundaries::completed, RuleBoundaries::sums, RuleBoundaries::worstOff, RuleBoundaries::leftOut,
        RuleBoundaries::claimOf, RuleBoundaries::unjust, RuleBoundaries::changedWithout, RuleBoundaries::greedyLimit,
        RuleBoundaries::canBePaid, RuleBoundaries::commonAndSpread, RuleBoundaries::lossAndBestWithout, RuleBoundaries::endowment,
        RuleBoundaries::payers, RuleBoundaries::roundOf, RuleBoundaries::commonSupport, RuleBoundaries::priceIn,
        RuleBoundaries::fundedWithBudget, RuleBoundaries::fundedWithCost, RuleBoundaries::fundedWithout,
        RuleBoundaries::cheapestSet, RuleBoundaries::districtWelfare, RuleBoundaries::rankOf, RuleBoundaries::richest};

    private RuleBoundaries() {
    }

    /** EQUAL funds z and y in the rounds and x in the completion. */
    private static ParticipatoryBudget completedExample() {
        return loaded(EXAMPLE.replace("x 50", "x 40") + "set completion 1;");
    }

    private static void funded() {
        promise(22);
        ParticipatoryBudget x = loaded(EXAMPLE);
        of("Returns the projects that a rule funds, those of the completion included.");
        due(x.funded(EQUAL), 6);
        due(completedExample().funded(EQUAL), 7);
        due(loaded(RAISED).funded(EQUAL), 1);
        due(loaded(LOST).funded(EQUAL), 1);
        due(loaded(TWELVE).funded(EQUAL), 4095);
        of("BAD_VALUE if rule is none of these.");
        threeRules(x::funded);
        threeRules(new ParticipatoryBudget()::funded);
    }

    private static void fundedAt() {
        promise(23);
        ParticipatoryBudget x = loaded(EXAMPLE);
        of("- `k`: 0 for the first one");
        due(x.fundedAt(EQUAL, 0), 2);
        due(x.fundedAt(GREEDY, 0), 2);
        due(x.fundedAt(BEST, 0), 0);
        of("NOT_FOUND if there are not so many;");
        ParticipatoryBudget y = completedExample();
        ParticipatoryBudget z = loaded(TWELVE);
        due(y.fundedAt(EQUAL, 2), 0);
        due(y.fundedAt(EQUAL, 3), NONE);
        for (int rule = 0; rule < 3; rule++) {
            due(x.fundedAt(rule, rule == BEST ? 3 : 2), NONE);
            due(x.fundedAt(rule, rule == BEST ? 2 : 1) >= 0, true);
            due(x.fundedAt(rule, MAX), NONE);
            due(z.fundedAt(rule, 11), 11);
            due(z.fundedAt(rule, 12), NONE);
            due(new ParticipatoryBudget().fundedAt(rule, 0), NONE);
        }
        of("BAD_VALUE if rule is none of these (checked first).");
        threeRules(rule -> x.fundedAt(rule, 0));
        for (int rule : NO_RULES) {
            due(x.fundedAt(rule, MAX), BAD);
            due(new ParticipatoryBudget().fundedAt(rule, 0), BAD);
        }
    }

    private static void priceOf() {
        promise(24);
        of("NOT_FOUND if it was not funded in them.");
        ParticipatoryBudget x = loaded(EXAMPLE);
        due(x.priceOf(0), NONE);
        due(x.priceOf(1), 20);
        due(x.priceOf(2), 14);
        due(completedExample().priceOf(0), NONE);
        // of the rounds that count
        due(loaded(RAISED).priceOf(0), 80);
        due(loaded(LOST).priceOf(0), 2);
        due(loaded(LOST).priceOf(1), NONE);
        of("Throws `IndexOutOfBoundsException` if project is not a valid index");
        projectIndex(ParticipatoryBudget::priceOf);
    }

    private static void paidBy() {
        promise(25);
        of("0 if the voter pays nothing for it.");
        ParticipatoryBudget x = loaded(EXAMPLE);
        due(x.paidBy(1, 1), 0);
        due(x.paidBy(0, 0), 0);
        due(x.paidBy(2, 3), 13);
        due(completedExample().paidBy(0, 1), 0);
        ParticipatoryBudget y = loaded(WEIGHTS);
        y.setCost(0, 1);
        due(y.paidBy(0, 0), 1);
        due(y.paidBy(0, 1), 0);
        due(y.paidBy(0, 2), 0);
        // a supporter whose purse is empty
        due(loaded("district a 5;district b 0;project p 5 a b;voter 1 in a for p;voter 9 in b for p;").paidBy(0, 1), 0);
        due(loaded(LOST).paidBy(1, 0), 0);
        of("Throws `IndexOutOfBoundsException` if project or voter is not a valid index");
        projectIndex((z, p) -> z.paidBy(p, 0));
        voterIndex((z, v) -> z.paidBy(0, v));
    }

    private static void paidFrom() {
        promise(26);
        of("Returns the number of units, 0 if the project is not funded;");
        ParticipatoryBudget x = loaded(EXAMPLE);
        due(x.paidFrom(EQUAL, 0, 0), 0);
        due(x.paidFrom(GREEDY, 0, 0), 0);
        due(x.paidFrom(EQUAL, 1, 0), 60);
        due(x.paidFrom(EQUAL, 1, 1), 0);
        due(completedExample().paidFrom(EQUAL, 0, 0), 40);
        due(loaded(LOST).paidFrom(EQUAL, 1, 0), 0);
        due(loaded(LOST).paidFrom(GREEDY, 1, 0), 3);
        of("BAD_VALUE if rule is neither.");
        twoRules(rule -> x.paidFrom(rule, 1, 0));
        of("Throws `IndexOutOfBoundsException` if project or district is not a valid index (checked first)");
        for (int rule : new int[] {EQUAL, GREEDY, BEST, -1, 3}) {
            projectIndex((y, p) -> y.paidFrom(rule, p, 0));
            districtIndex((y, d) -> y.paidFrom(rule, 0, d));
        }
    }

    private static void leftOf() {
        promise(27);
        ParticipatoryBudget x = loaded(EXAMPLE);
        of("Returns the budget of a district less all that is paid from it.");
        due(x.leftOf(EQUAL, 0), 40);
        due(x.leftOf(EQUAL, 1), 20);
        due(completedExample().leftOf(EQUAL, 0), 0);
        due(loaded(RAISED).leftOf(EQUAL, 0), 20);
        due(loaded(TWELVE).leftOf(EQUAL, 0), 0);
        due(loaded(TWELVE).leftOf(GREEDY, 0), 0);
        due(loaded("district a 100000;").leftOf(EQUAL, 0), 100000);
        of("BAD_VALUE if rule is neither.");
        twoRules(rule -> x.leftOf(rule, 0));
        of("Throws `IndexOutOfBoundsException` if district is not a valid index (checked first)");
        for (int rule : new int[] {EQUAL, GREEDY, BEST, -1, 3}) {
            districtIndex((y, d) -> y.leftOf(rule, d));
        }
    }

    private static void pursesBehind() {
        promise(28);
        of("0 if the voter is not a member of the district.");
        ParticipatoryBudget x = loaded(EXAMPLE);
        due(x.purseLeft(3, 0), 0);
        due(x.purseLeft(3, 1), 7);
        ParticipatoryBudget y = loaded(RAISED);
        due(y.purseLeft(1, 0), 80);
        y.setMember(1, 0, false);
        y.setCost(0, 115);
        due(y.raises(), 1);
        due(y.purseLeft(0, 0), 110);
        due(y.purseLeft(1, 0), 0);
        y.setCost(0, 90);
        y.setMember(1, 0, true);
        due(y.raises(), 4);
        due(y.purseLeft(1, 0), 90);
        of("Throws `IndexOutOfBoundsException` if voter or district is not a valid index");
        voterIndex((z, v) -> z.purseLeft(v, 0));
        districtIndex((z, d) -> z.purseLeft(0, d));
        promise(29);
        of("Returns the number of units.");
        due(x.meansLeft(1), 28);
        due(loaded(TWELVE).meansLeft(0), 0);
        due(loaded("district a 9;project p 1 a;voter 1 in a;").meansLeft(0), 0);
        of("Throws `IndexOutOfBoundsException` if project is not a valid index");
        projectIndex(ParticipatoryBudget::meansLeft);
    }

    private static void raises() {
        promise(30);
        of("Returns the k that counts, 0 to 60;");
        ParticipatoryBudget x = loaded(RAISED);
        due(x.raises(), 3);
        x.setCost(0, 60);
        due(x.raises(), 1);
        x.setCost(0, 50);
        due(x.raises(), 0);
        x.setSetting(STEP, 1);
        x.setBudget(0, 100000);
        x.setCost(0, 50059);
        due(x.raises(), 59);
        x.setCost(0, 50060);
        due(x.raises(), 60);
        due(x.funded(EQUAL), 1);
        x.setCost(0, 50061);
        due(x.raises(), 60);
        due(x.funded(EQUAL), 0);
        of("0 unless COMPLETION is 2.");
        x.setSetting(COMPLETION, 1);
        due(x.raises(), 0);
        x.setSetting(COMPLETION, 0);
        due(x.raises(), 0);
        due(x.purseLeft(1, 0), 50000);
    }

    private static void completed() {
        promise(31);
        of("Returns how many projects the completion has added: those funded by EQUAL that were not funded in the rounds without raise.");
        ParticipatoryBudget x = loaded(EXAMPLE);
        due(x.completed(), 0);
        due(completedExample().completed(), 1);
        due(loaded(RAISED).completed(), 1);
        // p came and q went
        due(loaded(LOST).completed(), 1);
        ParticipatoryBudget y = loaded(GREEDS + "set completion 1;set order 1;");
        due(y.completed(), 2);
        due(loaded(TWELVE + "set completion 2;").completed(), 0);
        due(new ParticipatoryBudget().completed(), 0);
    }

    private static void sums() {
        ParticipatoryBudget x = loaded(EXAMPLE);
        promise(32);
        of("BAD_VALUE if rule is none of these.");
        threeRules(x::totalCost);
        promise(33);
        of("BAD_VALUE if rule is none of these.");
        threeRules(x::welfare);
        promise(34);
        of("BAD_VALUE if rule is none of these.");
        threeRules(rule -> x.satisfaction(rule, 0));
        of("Throws `IndexOutOfBoundsException` if voter is not a valid index (checked first)");
        for (int rule : new int[] {EQUAL, GREEDY, BEST, -1, 3}) {
            voterIndex((y, v) -> y.satisfaction(rule, v));
        }
    }

    private static void worstOff() {
        promise(35);
        ParticipatoryBudget x = loaded(EXAMPLE);
        of("Returns the voter with the least satisfaction with a rule.");
        due(x.worstOff(EQUAL), 1);
        due(loaded("district a 100;project p 1 a;" + "voter 1 in a for p;".repeat(23) + "voter 1 in a;").worstOff(GREEDY), 23);
        due(loaded("district a 100;project p 1 a;voter 1 in a;" + "voter 1 in a for p;".repeat(23)).worstOff(BEST), 0);
        of("Ties are broken by lower index.");
        due(x.worstOff(BEST), 1);
        due(x.satisfaction(BEST, 3), x.satisfaction(BEST, 1));
        due(loaded("district a 1;" + "voter 1 in a;".repeat(24)).worstOff(EQUAL), 0);
        of("NOT_FOUND if there are no voters;");
        for (int rule = 0; rule < 3; rule++) {
            due(new ParticipatoryBudget().worstOff(rule), NONE);
            due(loaded("district a 1;project p 1 a;").worstOff(rule), NONE);
            due(loaded("district a 1;voter 1 in a;").worstOff(rule), 0);
        }
        of("BAD_VALUE if rule is none of these (checked first).");
        threeRules(x::worstOff);
        threeRules(new ParticipatoryBudget()::worstOff);
    }

    private static void leftOut() {
        promise(36);
        of("Returns the voters who support no project that a rule funds.");
        ParticipatoryBudget x = loaded(EXAMPLE);
        due(x.leftOut(EQUAL), 2);
        due(x.leftOut(BEST), 0);
        x.setMember(3, 1, false);
        due(x.leftOut(BEST), 8);
        due(loaded("district a 1;" + "voter 1 in a;".repeat(24)).leftOut(EQUAL), (1 << 24) - 1);
        due(new ParticipatoryBudget().leftOut(BEST), 0);
        of("BAD_VALUE if rule is none of these.");
        threeRules(x::leftOut);
    }

    private static void claimOf() {
        promise(37);
        of("Returns the claim of a project by a rule: what the purses for its districts hold at first, without raise, of those of its supporters "
                + "who support no project that the rule funds.");
        // purses of 10 and 50, and of 20; p and q are too dear for all rules, with one raise too
        ParticipatoryBudget x = loaded("district a 30;district b 50;project p 99 a;project q 99 a b;voter 1 in a b for p q;voter 2 in a;set completion 2;");
        due(x.raises(), 1);
        due(x.claimOf(EQUAL, 0), 10);
        due(x.claimOf(EQUAL, 1), 60);
        due(x.claimOf(GREEDY, 1), 60);
        ParticipatoryBudget y = loaded(EXAMPLE);
        due(y.claimOf(EQUAL, 0), 25);
        y.setApproval(1, 0, false);
        due(y.claimOf(EQUAL, 0), 0);
        ParticipatoryBudget z = loaded("district a 66;district b 0;project p 99 a;" + "voter 1 in a for p;".repeat(22) + "voter 1 in b for p;voter 1 in a;");
        due(z.claimOf(BEST, 0), 44);
        of("Returns the number of units, 0 if the project is funded;");
        for (int rule = 0; rule < 3; rule++) {
            due(y.claimOf(rule, 1), 0);
            due(y.claimOf(rule, 2), 0);
        }
        due(loaded(EXAMPLE).claimOf(BEST, 0), 0);
        due(loaded(TWELVE).claimOf(EQUAL, 11), 0);
        of("BAD_VALUE if rule is none of these.");
        threeRules(rule -> y.claimOf(rule, 0));
        of("Throws `IndexOutOfBoundsException` if project is not a valid index (checked first)");
        for (int rule : new int[] {EQUAL, GREEDY, BEST, -1, 3}) {
            projectIndex((w, p) -> w.claimOf(rule, p));
        }
    }

    private static void unjust() {
        promise(38);
        ParticipatoryBudget x = loaded(GREEDS);
        of("Returns the first project that a rule does not fund although its claim is at least its cost.");
        x.setCost(2, 33);
        due(x.claimOf(GREEDY, 2), 33);
        due(x.unjust(GREEDY), 2);
        x.setCost(1, 34);
        due(x.unjust(GREEDY), 2);
        x.setCost(1, 33);
        due(x.unjust(GREEDY), 1);
        // purses of 3 and 6; q leaves 2
        ParticipatoryBudget y = loaded("district a 10;project p 3 a;project q 8 a;voter 1 in a for p;voter 2 in a for q;");
        due(y.funded(GREEDY), 2);
        due(y.unjust(GREEDY), 0);
        y.setCost(0, 4);
        due(y.unjust(GREEDY), NONE);
        of("NOT_FOUND if there is none: the rule represents all;");
        x.setCost(1, 34);
        x.setCost(2, 34);
        due(x.unjust(GREEDY), NONE);
        due(new ParticipatoryBudget().unjust(EQUAL), NONE);
        due(loaded(TWELVE).unjust(BEST), NONE);
        // what nobody supports claims nothing
        due(loaded("district a 9;project p 1 a;voter 1 in a;").unjust(GREEDY), NONE);
        of("BAD_VALUE if rule is none of these (checked first).");
        threeRules(x::unjust);
        threeRules(new ParticipatoryBudget()::unjust);
    }

    private static void changedWithout() {
        promise(39);
        ParticipatoryBudget x = loaded(EXAMPLE);
        of("Returns the projects for which EQUAL would decide otherwise if a voter approved none.");
        String before = state(loaded(EXAMPLE));
        due(x.changedWithout(1), 0);
        due(x.changedWithout(2), 7);
        due(state(x), before);
        due(x.undoCount(), 0);
        due(loaded(RAISED).changedWithout(1), 0);
        due(loaded(RAISED).changedWithout(0), 1);
        due(loaded(TWELVE).changedWithout(0), 4095);
        of("The purses do not change by that.");
        // with the other voter gone a purse of 100 would do alone
        ParticipatoryBudget y = loaded("district a 100;project p 80 a;voter 1 in a for p;voter 1 in a for p;");
        due(y.changedWithout(0), 1);
        due(y.changedWithout(1), 1);
        of("Returns the projects as a bit set: those funded now and not then, or then and not now.");
        // y and z now, x alone then
        due(x.funded(EQUAL), 6);
        due(x.changedWithout(2), 7);
        for (int p = 0; p < 3; p++) {
            x.setApproval(2, p, false);
        }
        due(x.funded(EQUAL), 1);
        due(x.changedWithout(2), 0);
        of("Throws `IndexOutOfBoundsException` if voter is not a valid index");
        voterIndex(ParticipatoryBudget::changedWithout);
    }

    private static void greedyLimit() {
        promise(40);
        of("Returns the greatest cost at which a project would be funded by GREEDY, all else unchanged.");
        ParticipatoryBudget x = loaded(EXAMPLE);
        due(x.greedyLimit(0), 40);
        due(state(x), state(loaded(EXAMPLE)));
        x.setCost(0, 40);
        due(x.funded(GREEDY), 7);
        x.setCost(0, 41);
        due(x.funded(GREEDY), 6);
        // behind the two of 40 there are 20 left, before them 100; 3 / 60 is as much as 2 / 40, and 40 is less
        ParticipatoryBudget y = loaded(GREEDS + "set order 1;");
        due(y.greedyLimit(0), 59);
        y.setCost(0, 59);
        due(y.funded(GREEDY), 3);
        y.setCost(0, 60);
        due(y.funded(GREEDY), 6);
        of("Returns 1 to 100000;");
        due(loaded("district a 1;project p 7 a;voter 1 in a for p;").greedyLimit(0), 1);
        due(loaded("district a 99999;project p 7 a;voter 1 in a for p;").greedyLimit(0), 99999);
        due(loaded("district a 100000;project p 7 a;voter 1 in a for p;").greedyLimit(0), 100000);
        due(loaded("district a 100000;district b 100000;project p 7 a b;voter 1 in a for p;").greedyLimit(0), 100000);
        of("NOT_FOUND if it would not be funded at any cost.");
        due(loaded("district a 0;project p 7 a;voter 1 in a for p;").greedyLimit(0), NONE);
        due(loaded("district a 9;project p 7 a;voter 1 in a;").greedyLimit(0), NONE);
        due(loaded("district a 9;project p 7 a;").greedyLimit(0), NONE);
        due(loaded("district a 10;project p 7 a;project q 10 a;voter 2 in a for q;voter 1 in a for p;").greedyLimit(0), NONE);
        due(loaded("district a 10;project p 7 a;project q 9 a;voter 2 in a for q;voter 1 in a for p;").greedyLimit(0), 1);
        of("Throws `IndexOutOfBoundsException` if project is not a valid index");
        projectIndex(ParticipatoryBudget::greedyLimit);
    }

    private static void canBePaid() {
        promise(41);
        of("false also if projects has other bits than those of projects that there are.");
        ParticipatoryBudget x = loaded(EXAMPLE);
        due(x.canBePaid(7), true);
        for (int bit = 3; bit < 32; bit++) {
            due(x.canBePaid(1 << bit), false);
            due(x.canBePaid(7 | 1 << bit), false);
        }
        due(x.canBePaid(-1), false);
        ParticipatoryBudget y = loaded(TWELVE);
        due(y.canBePaid(4095), true);
        due(y.canBePaid(4096), false);
        due(y.canBePaid(MIN), false);
        due(y.canBePaid(MAX), false);
        due(new ParticipatoryBudget().canBePaid(0), true);
        due(new ParticipatoryBudget().canBePaid(1), false);
        due(new ParticipatoryBudget().canBePaid(MIN), false);
    }

    private static void commonAndSpread() {
        ParticipatoryBudget x = loaded(EXAMPLE);
        promise(42);
        of("BAD_VALUE if one or other is none of these.");
        for (int rule = 0; rule < 3; rule++) {
            int good = rule;
            threeRules(bad -> x.common(good, bad));
            threeRules(bad -> x.common(bad, good));
        }
        due(x.common(-1, 3), BAD);
        promise(43);
        of("Returns the greatest satisfaction of a voter with a rule less the least one (see satisfaction).");
        due(x.spread(EQUAL), 2);
        due(x.spread(BEST), 1);
        due(loaded(TWELVE).satisfaction(BEST, 0), 12);
        due(loaded(TWELVE).spread(BEST), 0);
        of("Returns the difference, 0 without voters;");
        for (int rule = 0; rule < 3; rule++) {
            due(new ParticipatoryBudget().spread(rule), 0);
            due(loaded("district a 9;project p 1 a;").spread(rule), 0);
        }
        of("BAD_VALUE if rule is none of these.");
        threeRules(x::spread);
        threeRules(new ParticipatoryBudget()::spread);
    }

    private static void lossAndBestWithout() {
        ParticipatoryBudget x = loaded(EXAMPLE);
        promise(44);
        of("BAD_VALUE if rule is none of these.");
        threeRules(x::loss);
        promise(45);
        of("Returns the greatest welfare of a set of projects that can be paid (see BEST) and does not have a project.");
        due(x.bestWithout(0), 6);
        due(x.bestWithout(1), 5);
        x.setCost(2, 61);
        due(x.bestWithout(1), 2);
        due(x.bestWithout(2), 5);
        due(loaded("district a 1;project p 1 a;voter 1 in a for p;").bestWithout(0), 0);
        due(loaded(TWELVE).bestWithout(11), 11);
        of("Throws `IndexOutOfBoundsException` if project is not a valid index");
        projectIndex(ParticipatoryBudget::bestWithout);
    }

    private static void endowment() {
        promise(46);
        of("Returns what all purses of a voter hold at first, without raise.");
        ParticipatoryBudget x = loaded(EXAMPLE);
        due(x.endowment(2), 90);
        due(x.endowment(0), 25);
        due(loaded(RAISED).endowment(0), 50);
        due(loaded(RAISED).endowment(1), 50);
        x.setMember(0, 0, false);
        due(x.endowment(0), 0);
        due(loaded("district a 100000;district b 100000;district c 100000;district d 100000;voter 1 in a b c d;").endowment(0), 400000);
        of("Throws `IndexOutOfBoundsException` if voter is not a valid index");
        voterIndex(ParticipatoryBudget::endowment);
        promise(47);
        of("Returns what a voter pays for all projects in the rounds of EQUAL SHARES that count.");
        due(loaded(TWELVE).spentBy(0), 12);
        due(loaded(RAISED).spentBy(0), 80);
        due(loaded(RAISED).spentBy(1), 0);
        due(loaded(LOST).spentBy(0), 4);
        due(completedExample().spentBy(1), 0);
        of("Throws `IndexOutOfBoundsException` if voter is not a valid index");
        voterIndex(ParticipatoryBudget::spentBy);
    }

    private static void payers() {
        promise(48);
        of("Returns the voters who pay at least one unit for a project in the rounds of EQUAL SHARES that count.");
        ParticipatoryBudget x = loaded(WEIGHTS);
        due(x.payers(0), 7);
        x.setCost(0, 4);
        due(x.paidBy(0, 2), 1);
        due(x.payers(0), 7);
        x.setCost(0, 3);
        due(x.paidBy(0, 2), 0);
        due(x.payers(0), 3);
        x.setCost(0, 1);
        due(x.payers(0), 1);
        x.setCost(0, 61);
        due(x.payers(0), 0);
        due(completedExample().payers(0), 0);
        due(loaded(LOST).payers(1), 0);
        due(loaded("district a 24;project p 24 a;" + "voter 1 in a for p;".repeat(24)).payers(0), (1 << 24) - 1);
        of("Throws `IndexOutOfBoundsException` if project is not a valid index");
        projectIndex(ParticipatoryBudget::payers);
    }

    private static void roundOf() {
        promise(49);
        of("Returns the round, 0 for the first one;");
        ParticipatoryBudget x = loaded(EXAMPLE);
        due(x.roundOf(2), 0);
        due(x.roundOf(1), 1);
        due(loaded(TWELVE).roundOf(0), 0);
        due(loaded(TWELVE).roundOf(11), 11);
        of("NOT_FOUND if it is not funded in them.");
        due(x.roundOf(0), NONE);
        due(completedExample().roundOf(0), NONE);
        due(loaded(LOST).roundOf(0), 0);
        due(loaded(LOST).roundOf(1), NONE);
        due(loaded(RAISED).roundOf(0), 0);
        of("Throws `IndexOutOfBoundsException` if project is not a valid index");
        projectIndex(ParticipatoryBudget::roundOf);
    }

    private static void commonSupport() {
        promise(50);
        of("- `other`: index of a project, possibly the same");
        ParticipatoryBudget x = loaded(EXAMPLE);
        due(x.commonSupport(0, 0), 2);
        due(x.commonSupport(2, 2), 2);
        due(x.commonSupport(0, 1), 1);
        due(x.commonSupport(0, 2), 0);
        due(loaded("district a 24;project p 24 a;" + "voter 9 in a for p;".repeat(24)).commonSupport(0, 0), 24);
        of("Throws `IndexOutOfBoundsException` if one or other is not a valid index");
        projectIndex((y, p) -> y.commonSupport(p, 0));
        projectIndex((y, p) -> y.commonSupport(0, p));
    }

    private static void priceIn() {
        promise(51);
        // p takes 20 from the first of two purses of 35; then q costs 29 of each weight, and 6 are left
        ParticipatoryBudget x = loaded("district a 70;project p 20 a;project q 44 a;project r 7 a;voter 1 in a for p q;voter 1 in a for q r;");
        x.setCost(2, 36);
        of("- `round`: 0 for the first round, up to the number of rounds (what it would be behind the last one)");
        due(x.priceIn(0, 0), 20);
        due(x.priceIn(1, 0), 22);
        due(x.priceIn(1, 1), 29);
        due(x.priceIn(2, 2), NONE);
        // the rounds without a raise, the rounds of the raise that counts, and none
        due(loaded(RAISED).priceIn(0, 0), 80);
        due(loaded(LOST).priceIn(1, 0), 2);
        due(loaded("district a 9;project p 10 a;voter 1 in a for p;").priceIn(0, 0), NONE);
        of("NOT_FOUND if the project was funded before this round or the means of its supporters are less than its cost together;");
        due(x.priceIn(0, 1), NONE);
        due(x.priceIn(0, 2), NONE);
        due(x.priceIn(1, 2), NONE);
        due(x.priceIn(2, 0), NONE);
        x.setCost(2, 35);
        due(x.priceIn(2, 0), 35);
        due(x.priceIn(2, 1), 35);
        due(x.priceIn(2, 2), NONE);
        x.setCost(1, 51);
        due(x.priceIn(1, 1), NONE);
        x.setCost(1, 50);
        due(x.priceIn(1, 1), 35);
        // a project of 0 left in its purses, and one that could be paid twice
        ParticipatoryBudget y = loaded("district a 9;project p 3 a;voter 1 in a for p;");
        due(y.priceIn(0, 1), NONE);
        of("BAD_VALUE if round is negative or greater than the number of rounds.");
        due(y.priceIn(0, -1), BAD);
        due(y.priceIn(0, 2), BAD);
        due(y.priceIn(0, MIN), BAD);
        due(y.priceIn(0, MAX), BAD);
        due(loaded(TWELVE).priceIn(0, 12), NONE);
        due(loaded(TWELVE).priceIn(0, 13), BAD);
        due(completedExample().priceIn(0, 3), BAD);
        due(loaded("district a 9;project p 10 a;voter 1 in a for p;").priceIn(0, 1), BAD);
        of("Throws `IndexOutOfBoundsException` if project is not a valid index (checked first)");
        for (int round : new int[] {0, -1, MIN, MAX}) {
            projectIndex((z, p) -> z.priceIn(p, round));
        }
    }

    private static void fundedWithBudget() {
        promise(52);
        ParticipatoryBudget x = loaded(EXAMPLE);
        of("Returns the projects that EQUAL would fund with another budget of a district, all else unchanged.");
        due(x.fundedWithBudget(0, 200), 7);
        due(x.fundedWithBudget(0, 100), 6);
        due(state(x), state(loaded(EXAMPLE)));
        due(x.undoCount(), 0);
        // no more than the other budget may be paid, and it is what the completion has
        due(loaded(RAISED).fundedWithBudget(0, 79), 0);
        due(loaded(RAISED).fundedWithBudget(0, 80), 1);
        due(loaded(GREEDS + "set completion 1;").fundedWithBudget(0, 89), 6);
        due(loaded(GREEDS + "set completion 1;").fundedWithBudget(0, 90), 1);
        of("- `budget`: 0 to 100000");
        due(x.fundedWithBudget(0, 0), 4);
        due(x.fundedWithBudget(1, 0), 2);
        due(x.fundedWithBudget(0, 100000), 7);
        of("BAD_VALUE if budget is out of range.");
        for (int bad : new int[] {-1, 100001, MIN, MAX}) {
            due(x.fundedWithBudget(0, bad), BAD);
        }
        of("Throws `IndexOutOfBoundsException` if district is not a valid index (checked first)");
        for (int budget : new int[] {0, -1, 100001}) {
            districtIndex((y, d) -> y.fundedWithBudget(d, budget));
        }
    }

    private static void fundedWithCost() {
        promise(53);
        ParticipatoryBudget x = loaded(EXAMPLE);
        of("Returns the projects that EQUAL would fund with another cost of a project, all else unchanged.");
        due(x.fundedWithCost(0, 50), 6);
        due(x.fundedWithCost(0, 38), 7);
        due(x.fundedWithCost(0, 39), 6);
        due(state(x), state(loaded(EXAMPLE)));
        due(x.undoCount(), 0);
        due(loaded(RAISED).fundedWithCost(0, 100), 1);
        due(loaded(RAISED).fundedWithCost(0, 101), 0);
        of("- `cost`: 1 to 100000");
        due(x.fundedWithCost(0, 1), 7);
        due(x.fundedWithCost(2, 100000), 2);
        of("BAD_VALUE if cost is out of range.");
        for (int bad : new int[] {0, -1, 100001, MIN, MAX}) {
            due(x.fundedWithCost(0, bad), BAD);
        }
        of("Throws `IndexOutOfBoundsException` if project is not a valid index (checked first)");
        for (int cost : new int[] {1, 0, 100001}) {
            projectIndex((y, p) -> y.fundedWithCost(p, cost));
        }
    }

    private static void fundedWithout() {
        promise(54);
        of("Returns the projects that EQUAL would fund if nobody approved a project, all else unchanged.");
        ParticipatoryBudget x = loaded(EXAMPLE);
        due(x.fundedWithout(0), 6);
        due(x.fundedWithout(1), 5);
        due(x.fundedWithout(2), 2);
        due(state(x), state(loaded(EXAMPLE)));
        due(x.undoCount(), 0);
        due(loaded(RAISED).fundedWithout(0), 0);
        // without q nothing is raised for it, without p one raise is not too much
        due(loaded(LOST).fundedWithout(0), 2);
        due(loaded(LOST).fundedWithout(1), 1);
        due(loaded(TWELVE).fundedWithout(11), 2047);
        of("Throws `IndexOutOfBoundsException` if project is not a valid index");
        projectIndex(ParticipatoryBudget::fundedWithout);
    }

    private static void cheapestSet() {
        promise(55);
        ParticipatoryBudget x = loaded(EXAMPLE);
        of("Returns the set of projects that can be paid (see BEST) with at least a given sum of votes times worth and with the least cost altogether.");
        due(x.cheapestSet(1), 4);
        due(x.cheapestSet(3), 4);
        due(x.cheapestSet(4), 5);
        due(x.cheapestSet(5), 5);
        due(x.cheapestSet(6), 6);
        due(x.cheapestSet(8), 7);
        due(loaded(TWELVE).cheapestSet(12), 4095);
        due(loaded(TWELVE).cheapestSet(13), NONE);
        x.setSetting(WORTH, 1);
        due(x.cheapestSet(120), 4);
        due(x.cheapestSet(121), 2);
        of("Ties are broken by the lower bit set.");
        ParticipatoryBudget y = loaded("district a 9;project p 1 a;project q 5 a;project r 5 a;project s 4 a;voter 1 in a for q r;voter 1 in a for s p;");
        due(y.cheapestSet(1), 1);
        y.setApproval(1, 0, false);
        y.setCost(3, 5);
        due(y.cheapestSet(1), 2);
        of("- `welfare`: the sum, not negative");
        due(x.cheapestSet(0), 0);
        due(new ParticipatoryBudget().cheapestSet(0), 0);
        of("BAD_VALUE if welfare is negative;");
        due(x.cheapestSet(-1), BAD);
        due(x.cheapestSet(MIN), BAD);
        due(new ParticipatoryBudget().cheapestSet(-1), BAD);
        of("NOT_FOUND if there is no such set.");
        x.setSetting(WORTH, 0);
        due(x.cheapestSet(9), NONE);
        due(x.cheapestSet(MAX), NONE);
        due(new ParticipatoryBudget().cheapestSet(1), NONE);
        // all would be enough, but cannot be paid
        due(loaded("district a 9;project p 5 a;project q 5 a;voter 1 in a for p q;").cheapestSet(2), NONE);
    }

    private static void districtWelfare() {
        promise(56);
        ParticipatoryBudget x = loaded(EXAMPLE);
        of("BAD_VALUE if rule is none of these.");
        threeRules(rule -> x.districtWelfare(rule, 0));
        of("Throws `IndexOutOfBoundsException` if district is not a valid index (checked first)");
        for (int rule : new int[] {EQUAL, GREEDY, BEST, -1, 3}) {
            districtIndex((y, d) -> y.districtWelfare(rule, d));
        }
    }

    private static void rankOf() {
        promise(57);
        of("Returns the number of voters with a greater satisfaction with a rule than a voter, or with the same satisfaction and a lower index.");
        ParticipatoryBudget x = loaded(EXAMPLE);
        due(x.rankOf(EQUAL, 2), 0);
        due(x.rankOf(EQUAL, 0), 1);
        due(x.rankOf(EQUAL, 3), 2);
        due(x.rankOf(EQUAL, 1), 3);
        ParticipatoryBudget y = loaded("district a 1;" + "voter 1 in a;".repeat(24));
        due(y.rankOf(BEST, 0), 0);
        due(y.rankOf(BEST, 23), 23);
        due(loaded(TWELVE).rankOf(BEST, 0), 0);
        of("BAD_VALUE if rule is none of these.");
        threeRules(rule -> x.rankOf(rule, 0));
        of("Throws `IndexOutOfBoundsException` if voter is not a valid index (checked first)");
        for (int rule : new int[] {EQUAL, GREEDY, BEST, -1, 3}) {
            voterIndex((z, v) -> z.rankOf(rule, v));
        }
    }

    private static void richest() {
        promise(58);
        of("Returns the voter whose purses hold the most together behind the rounds of EQUAL SHARES that count.");
        ParticipatoryBudget x = loaded(EXAMPLE);
        due(x.richest(), 1);
        x.setApproval(2, 1, false);
        x.setApproval(2, 2, false);
        due(x.richest(), 2);
        due(loaded(RAISED).richest(), 1);
        due(loaded("district a 90;project p 3 a;" + "voter 1 in a for p;".repeat(3) + "voter 9 in a for p;" + "voter 8 in a;").richest(), 3);
        of("Ties are broken by lower index.");
        due(loaded("district a 24;" + "voter 1 in a;".repeat(24)).richest(), 0);
        due(loaded("district a 0;voter 1 in a;voter 9 in a;").richest(), 0);
        due(loaded("district a 9;voter 1 in a;voter 4 in a;voter 4 in a;").richest(), 1);
        of("NOT_FOUND if there are no voters.");
        due(new ParticipatoryBudget().richest(), NONE);
        due(loaded("district a 9;project p 1 a;").richest(), NONE);
    }
}
