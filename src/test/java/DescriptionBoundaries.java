/** The sentences of the section "Description", each with the cases at its edges. */
final class DescriptionBoundaries extends Sentences {
    private static final String FOUR_DISTRICTS = "district a 1;district b 1;district c 1;district d 1;";

    static final Call[] TESTS = {DescriptionBoundaries::counts, DescriptionBoundaries::ranges, DescriptionBoundaries::support,
        DescriptionBoundaries::settings, DescriptionBoundaries::purses, DescriptionBoundaries::payments,
        DescriptionBoundaries::rounds, DescriptionBoundaries::prices, DescriptionBoundaries::choices,
        DescriptionBoundaries::shares, DescriptionBoundaries::completion, DescriptionBoundaries::raises,
        DescriptionBoundaries::endOfRaises, DescriptionBoundaries::greedyOrder, DescriptionBoundaries::greedyPayments,
        DescriptionBoundaries::best, DescriptionBoundaries::changes, DescriptionBoundaries::refusedCalls,
        DescriptionBoundaries::tokens, DescriptionBoundaries::grammar, DescriptionBoundaries::names,
        DescriptionBoundaries::errorOrder, DescriptionBoundaries::errors};

    private DescriptionBoundaries() {
    }

    /** As large as a ballot can be, with everybody for everything. */
    private static ParticipatoryBudget largest() {
        ParticipatoryBudget x = loaded(FOUR_DISTRICTS.replace(" 1;", " 100000;") + projects(12, "100000 a b c d") + "voter 9 in a b c d;".repeat(24));
        for (int v = 0; v < 24; v++) {
            for (int p = 0; p < 12; p++) {
                x.setApproval(v, p, true);
            }
        }
        return x;
    }

    // ---- BALLOT

    private static void counts() {
        of("There are at most 4 districts, 12 projects and 24 voters, each indexed from 0 in the order in which they are declared.");
        ParticipatoryBudget x = loaded("district b 10;district a 11;district d 12;district c 13;" + projects(12, "7 a")
                + "voter 1 in a;" + "voter 2 in a;".repeat(22) + "voter 9 in c;");
        due(x.districtCount(), 4);
        due(x.projectCount(), 12);
        due(x.voterCount(), 24);
        due(x.districtNamed(letters("b")), 0);
        due(x.districtNamed(letters("c")), 3);
        due(x.budgetOf(0), 10);
        due(x.budgetOf(3), 13);
        due(x.projectNamed(letters("m")), 0);
        due(x.projectNamed(letters("x")), 11);
        due(x.weightOf(0), 1);
        due(x.weightOf(23), 9);
        error(FOUR_DISTRICTS + "district e 1;", COUNT, FOUR_DISTRICTS.length());
        String twelve = "district a 1;" + projects(12, "7 a");
        error(twelve + "project z 7 a;", COUNT, twelve.length());
        String all = "district a 1;" + "voter 1 in a;".repeat(24);
        error(all + "voter 1 in a;", COUNT, all.length());
    }

    private static void ranges() {
        of("A district has a budget (0 to 100000 units of money).");
        ParticipatoryBudget x = loaded("district a 0;district b 100000;project p 1 a;voter 1 in a b for p;");
        due(x.budgetOf(0), 0);
        due(x.budgetOf(1), 100000);
        due(x.endowment(0), 100000);
        due(x.funded(EQUAL) + x.funded(GREEDY) + x.funded(BEST), 0);
        error("district a 100001;", RANGE, 11);
        error("district a -1;", SYNTAX, 11);

        of("A project has a cost (1 to 100000) and is in one or more districts.");
        ParticipatoryBudget y = loaded(FOUR_DISTRICTS + "project p 1 d;project q 100000 d c b a;");
        due(y.costOf(0), 1);
        due(y.costOf(1), 100000);
        due(y.districtsOf(0), 8);
        due(y.districtsOf(1), 15);
        error("district a 1;project p 0 a;", RANGE, 23);
        error("district a 1;project p 100001 a;", RANGE, 23);
        error("district a 1;project p 1;", SYNTAX, 24);

        of("A voter has a weight (1 to 9), is a member of some districts, possibly none, and approves some projects.");
        ParticipatoryBudget z = loaded("district a 100;project p 1 a;voter 1 in a for p;voter 9 in a for p;");
        due(z.weightOf(0), 1);
        due(z.weightOf(1), 9);
        z.setMember(1, 0, false);
        due(z.memberships(1), 0);
        due(z.endowment(1), 0);
        due(z.approvals(1), 1);
        due(z.satisfaction(EQUAL, 1), 0);
        due(z.purse(0, 0), 100);
        error("voter 0 in a;", RANGE, 6);
        error("voter 10 in a;", RANGE, 6);
    }

    private static void support() {
        of("A voter supports a project if the voter approves it and is a member of at least one of its districts.");
        ParticipatoryBudget x = loaded("district a 1;district b 1;district c 1;project p 1 a b;"
                + "voter 1 in c for p;voter 1 in b c for p;voter 1 in a b c;voter 1 in a b for p;");
        due(x.supporters(0), 10);
        x.setMember(1, 1, false);
        due(x.supporters(0), 8);

        of("The votes of a project are the sum of the weights of its supporters.");
        due(x.votesFor(0), 1);
        due(loaded("district a 1;district b 1;project p 1 a;voter 9 in a;voter 9 in b for p;").votesFor(0), 0);
        due(largest().votesFor(11), 216);
    }

    private static void settings() {
        of("The settings, with their ranges and initial values, are WORTH (0 or 1, initially 0), COMPLETION (0 to 2, initially 0), "
                + "STEP (1 to 1000, initially 10) and ORDER (0 or 1, initially 0).");
        int[] first = {0, 0, 10, 0};
        int[] least = {0, 0, 1, 0};
        int[] most = {1, 2, 1000, 1};
        String[] words = {"worth ", "completion ", "step ", "order "};
        ParticipatoryBudget x = new ParticipatoryBudget();
        for (int s = 0; s < 4; s++) {
            due(x.getSetting(s), first[s]);
            due(loaded("set " + words[s] + most[s] + ";").getSetting(s), most[s]);
            due(loaded("set " + words[s] + least[s] + ";").getSetting(s), least[s]);
            error("set " + words[s] + (most[s] + 1) + ";", RANGE, 4 + words[s].length());
            due(x.setSetting(s, most[s] + 1), BAD);
            due(x.setSetting(s, least[s] - 1), BAD);
        }
        error("set step 0;", RANGE, 9);

        of("The worth of a project is 1 if WORTH is 0, and its cost if WORTH is 1.");
        ParticipatoryBudget y = loaded("district a 100000;project p 1 a;project q 99999 a;voter 1 in a for p q;");
        due(y.welfare(BEST), 2);
        due(y.satisfaction(BEST, 0), 2);
        y.setSetting(WORTH, 1);
        due(y.welfare(BEST), 100000);
        due(y.satisfaction(BEST, 0), 100000);
    }

    // ---- PURSES

    private static void purses() {
        of("A voter has one purse for each district of which the voter is a member.");
        ParticipatoryBudget x = loaded("district a 8;district b 8;district c 8;voter 1 in a c;voter 1 in b;");
        due(x.purse(0, 0), 8);
        due(x.purse(0, 1), 0);
        due(x.purse(0, 2), 8);
        due(x.endowment(0), 16);

        of("It holds at first the budget of the district times the weight of the voter, divided by the sum of the weights of all "
                + "members of the district, rounded down.");
        ParticipatoryBudget y = loaded("district a 11;district b 1;voter 1 in a b;voter 2 in a;voter 3 in a b;voter 9 in b;");
        due(y.purse(0, 0), 1);
        due(y.purse(1, 0), 3);
        due(y.purse(2, 0), 5);
        due(y.purse(0, 1), 0);
        due(y.purse(3, 1), 0);
        y.setBudget(0, 12);
        due(y.purse(0, 0), 2);
        due(y.purse(1, 0), 4);
        due(y.purse(2, 0), 6);
        y.setBudget(0, 0);
        due(y.purse(2, 0), 0);
        due(loaded("district a 100000;voter 9 in a;").purse(0, 0), 100000);
        due(loaded("district a 100000;voter 9 in a;voter 1 in a;").purse(0, 0), 90000);
        due(loaded("district a 100000;" + "voter 9 in a;".repeat(24)).purse(23, 0), 4166);
    }

    private static String paid(ParticipatoryBudget x, int rule, int cost) {
        x.setCost(0, cost);
        return x.paidFrom(rule, 0, 0) + " " + x.paidFrom(rule, 0, 1) + " " + x.paidFrom(rule, 0, 2);
    }

    private static void payments() {
        of("A voter pays for a project from the purses for its districts only;");
        ParticipatoryBudget x = loaded("district a 10;district b 20;district c 30;project p 20 b;voter 1 in a b c for p;");
        due(x.funded(EQUAL), 1);
        due(x.purseLeft(0, 0), 10);
        due(x.purseLeft(0, 1), 0);
        due(x.purseLeft(0, 2), 30);
        due(x.fundedWithCost(0, 21), 0);

        of("what these hold together are the means of the voter for the project.");
        ParticipatoryBudget y = loaded("district a 10;district b 20;district c 30;project p 40 c a;voter 1 in a b c for p;");
        due(y.firstPrice(0), 40);
        y.setCost(0, 41);
        due(y.firstPrice(0), NONE);
        due(y.meansLeft(0), 40);

        of("When a voter pays, the money is taken from these purses in ascending order of the districts, from each one as much as "
                + "is needed and it holds.");
        ParticipatoryBudget z = loaded("district a 10;district b 20;district c 30;project p 9 c b a;voter 1 in c b a for p;");
        due(paid(z, EQUAL, 9), "9 0 0");
        due(z.purseLeft(0, 0), 1);
        due(paid(z, EQUAL, 10), "10 0 0");
        due(paid(z, EQUAL, 11), "10 1 0");
        due(paid(z, EQUAL, 30), "10 20 0");
        due(paid(z, EQUAL, 31), "10 20 1");
        due(z.purseLeft(0, 1), 0);
        due(z.purseLeft(0, 2), 29);
        due(paid(z, EQUAL, 60), "10 20 30");
        due(paid(z, EQUAL, 61), "0 0 0");
    }

    // ---- EQUAL SHARES

    private static void rounds() {
        of("In each round, the projects are considered that are not funded and whose supporters have means for it that are at least its cost together.");
        ParticipatoryBudget x = loaded("district a 100;project p 40 a;voter 1 in a for p;voter 1 in a for p;");
        due(x.fundedAt(EQUAL, 0), 0);
        due(x.fundedAt(EQUAL, 1), NONE);
        due(x.priceIn(0, 1), NONE);
        due(x.meansLeft(0), 60);
        due(x.fundedWithCost(0, 100), 1);
        due(x.fundedWithCost(0, 101), 0);

        of("If there is no such project, the rounds end.");
        x.setCost(0, 101);
        due(x.priceIn(0, 0), NONE);
        due(x.priceIn(0, 1), BAD);
        due(x.purseLeft(0, 0), 50);
        due(new ParticipatoryBudget().funded(EQUAL), 0);
        due(loaded("district a 9;project p 5 a;").priceIn(0, 1), BAD);
        // all twelve are funded in as many rounds
        ParticipatoryBudget y = loaded("district a 12;" + projects(12, "1 a") + "voter 1 in a for m n o p q r s t u v w x;");
        due(y.funded(EQUAL), 4095);
        due(y.roundOf(11), 11);
        due(y.priceIn(11, 11), 1);
        due(y.priceIn(11, 12), NONE);
        due(y.priceIn(11, 13), BAD);
    }

    private static void price(ParticipatoryBudget x, int cost, int price) {
        x.setCost(0, cost);
        due(x.firstPrice(0), price);
    }

    private static void prices() {
        of("The price of such a project is the least integer q for which the sum, over its supporters, of the lesser one of the means of "
                + "the supporter and q times the weight of the supporter is at least the cost.");
        // means of 10, 20 and 30, as the weights are
        ParticipatoryBudget x = loaded("district a 60;project p 1 a;voter 1 in a for p;voter 2 in a for p;voter 3 in a for p;");
        price(x, 1, 1);
        price(x, 6, 1);
        price(x, 7, 2);
        price(x, 12, 2);
        price(x, 13, 3);
        price(x, 54, 9);
        price(x, 55, 10);
        price(x, 60, 10);
        price(x, 61, NONE);
        // means of 10 and 90 at the same weight
        ParticipatoryBudget y = loaded("district a 10;district b 90;project p 1 a b;voter 1 in a for p;voter 1 in b for p;");
        price(y, 20, 10);
        price(y, 21, 11);
        price(y, 22, 12);
        price(y, 100, 90);
        price(y, 101, NONE);
        // means of 25 and 90 at weights of 9 and 1
        ParticipatoryBudget w = loaded("district a 25;district b 90;project p 1 a b;voter 9 in a for p;voter 1 in b for p;");
        price(w, 20, 2);
        price(w, 21, 3);
        price(w, 28, 3);
        price(w, 29, 4);
        price(w, 115, 90);
        // means of 1, 25 and 100
        ParticipatoryBudget v = loaded("district a 1;district b 25;district c 100;project p 1 a b c;voter 1 in a for p;voter 1 in b for p;voter 1 in c for p;");
        price(v, 3, 1);
        price(v, 4, 2);
        price(v, 51, 25);
        price(v, 60, 34);
        price(v, 126, 100);
        price(v, 127, NONE);
        // a means of nothing, and prices that are as high as can be
        ParticipatoryBudget z = loaded("district a 100000;district b 0;project p 1 a b;voter 1 in a for p;voter 9 in b for p;");
        price(z, 1, 1);
        price(z, 100000, 100000);
    }

    private static void choices() {
        of("Otherwise, the one with the least price is funded;");
        ParticipatoryBudget x = loaded("district a 40;project p 21 a;project q 20 a;voter 1 in a for p q;");
        due(x.funded(EQUAL), 2);
        x.setCost(1, 21);
        due(x.funded(EQUAL), 1);

        of("with WORTH 1 the one with the least quotient of price and cost.");
        // 3 / 5 and 5 / 9
        ParticipatoryBudget y = loaded("district a 100;district b 100;project p 5 a;project q 9 b;voter 1 in a for p;voter 1 in a for p;"
                + "voter 1 in b for q;voter 1 in b for q;set worth 1;");
        due(y.fundedAt(EQUAL, 0), 1);
        y.setSetting(WORTH, 0);
        due(y.fundedAt(EQUAL, 0), 0);
        // 40000 / 40000 and 30000 / 60000: the products are more than an int holds
        ParticipatoryBudget z = loaded("district a 100000;district b 100000;project p 40000 a;project q 60000 b;voter 1 in a for p;"
                + "voter 2 in b for q;set worth 1;");
        due(z.fundedAt(EQUAL, 0), 1);
        due(z.fundedAt(EQUAL, 1), 0);

        of("Ties are broken by more votes, then by lower index.");
        // the third voter is for q too, without means
        ParticipatoryBudget w = loaded("district a 50;district b 0;project p 10 a;project q 10 a b;project r 10 a;"
                + "voter 1 in a for p r;voter 1 in a for q;voter 1 in b for q;");
        for (int worth = 0; worth < 2; worth++) {
            w.setSetting(WORTH, worth);
            due(w.priceIn(1, 0), 10);
            due(w.fundedAt(EQUAL, 0), 1);
            due(w.fundedAt(EQUAL, 1), 0);
            due(w.fundedAt(EQUAL, 2), 2);
        }
    }

    private static String shares(ParticipatoryBudget x, int cost) {
        x.setCost(0, cost);
        return x.paidBy(0, 0) + " " + x.paidBy(0, 1) + " " + x.paidBy(0, 2);
    }

    private static void shares() {
        // means of 100, 7 and 100, weights of 3, 2 and 1
        ParticipatoryBudget x = loaded("district a 100;district b 7;district c 100;project p 1 a b c;"
                + "voter 3 in a for p;voter 2 in b for p;voter 1 in c for p;");
        of("Each supporter is to pay the lesser one of the means and q times the weight.");
        due(shares(x, 6), "3 2 1");
        due(shares(x, 18), "9 6 3");
        due(shares(x, 23), "12 7 4");
        due(shares(x, 27), "15 7 5");
        due(shares(x, 31), "18 7 6");
        due(shares(x, 207), "100 7 100");

        of("If this is more than the cost altogether, the excess is taken off from the supporters in descending order of their indices: each one "
                + "pays as much less as is left of the excess, but at most as much less that the voter still pays what it would be with q - 1 in place of q.");
        due(shares(x, 24), "13 7 4");
        due(shares(x, 22), "12 7 3");
        due(shares(x, 21), "12 6 3");
        due(shares(x, 20), "11 6 3");
        due(shares(x, 19), "10 6 3");
        due(shares(x, 5), "3 2 0");
        due(shares(x, 4), "3 1 0");
        due(shares(x, 1), "1 0 0");

        of("So exactly the cost is paid.");
        ParticipatoryBudget y = largest();
        y.setCost(0, 99999);
        due(y.funded(EQUAL), 7);
        for (int p = 0; p < 3; p++) {
            int sum = 0;
            for (int v = 0; v < 24; v++) {
                sum += y.paidBy(p, v);
            }
            due(sum, y.costOf(p));
            due(y.paidFrom(EQUAL, p, 0) + y.paidFrom(EQUAL, p, 1) + y.paidFrom(EQUAL, p, 2) + y.paidFrom(EQUAL, p, 3), y.costOf(p));
        }
    }

    // ---- COMPLETION

    private static void completion() {
        // the first voter, with a purse of 50, is for p and q; r is for nobody
        ParticipatoryBudget x = loaded("district a 100;project p 50 a;project q 50 a;project r 1 a;voter 1 in a for p q;voter 1 in a;");
        of("With COMPLETION 0, only what the rounds have funded is funded by EQUAL.");
        due(x.funded(EQUAL), 1);
        due(x.leftOf(EQUAL, 0), 50);
        due(x.fundedAt(EQUAL, 1), NONE);

        of("With COMPLETION 1, the projects that have votes and are not funded then are taken in the greedy order (see below), where each district "
                + "has left its budget less all that was paid from purses for it.");
        x.setSetting(COMPLETION, 1);
        due(x.funded(EQUAL), 3);
        due(x.leftOf(EQUAL, 0), 0);
        due(x.paidFrom(EQUAL, 0, 0), 50);
        due(x.fundedWithCost(1, 51), 1);
        due(x.fundedWithBudget(0, 99), 1);
        // what rounding keeps out of all purses is left as well: purses of 33, and 34 behind p
        ParticipatoryBudget y = loaded("district a 100;project p 66 a;project q 34 a;voter 1 in a for p;voter 1 in a for p;voter 1 in a for q;set completion 1;");
        due(y.funded(EQUAL), 3);
        due(y.fundedWithCost(1, 35), 1);
        // 3 votes at 90 or 2 votes at 40 first
        ParticipatoryBudget z = loaded("district a 100;project p 90 a;project q 40 a;voter 3 in a for p;voter 2 in a for q;voter 1 in a;set completion 1;");
        due(z.funded(EQUAL), 1);
        z.setSetting(ORDER, 1);
        due(z.funded(EQUAL), 2);
    }

    private static void raises() {
        of("With COMPLETION 2, the rounds are done anew, from the beginning, with k times STEP more in each purse at first, for k = 1, 2, and so on up to 60.");
        ParticipatoryBudget x = loaded(RAISED);
        due(x.raises(), 3);
        due(x.purseLeft(0, 0), 0);
        due(x.purseLeft(1, 0), 80);
        // the 60th raise, of 1 each, is the last one: purses of 60 and 120, or of 59 and 119
        x.setSetting(STEP, 1);
        x.setCost(0, 120);
        x.setBudget(0, 120);
        due(x.raises(), 60);
        due(x.funded(EQUAL), 1);
        x.setBudget(0, 118);
        due(x.raises(), 60);
        due(x.funded(EQUAL), 0);
        due(x.purseLeft(0, 0), 119);
        // purses of 9 and 5, and both are raised
        ParticipatoryBudget y = loaded("district a 90;district b 50;project p 34 a b;voter 1 in a b for p;voter 9 in a b;set completion 2;");
        due(y.raises(), 1);
        due(y.paidFrom(EQUAL, 0, 0), 19);
        due(y.paidFrom(EQUAL, 0, 1), 15);
        due(y.purseLeft(1, 1), 55);
        y.setCost(0, 35);
        due(y.raises(), 2);
        due(y.purseLeft(1, 0), 101);
    }

    private static void endOfRaises() {
        of("They end before the first k with which more than its budget is paid altogether from the purses for some district, and at the first k with "
                + "which all projects that have votes are funded (this k included).");
        ParticipatoryBudget x = loaded(RAISED);
        x.setCost(0, 100);
        due(x.raises(), 5);
        due(x.funded(EQUAL), 1);
        due(x.leftOf(EQUAL, 0), 0);
        x.setCost(0, 101);
        due(x.raises(), 5);
        due(x.funded(EQUAL), 0);
        due(x.purseLeft(1, 0), 100);
        // a has enough, b has not
        ParticipatoryBudget y = loaded("district a 1000;district b 100;project p 101 b;voter 1 in a b for p;voter 1 in b;set completion 2;");
        due(y.raises(), 5);
        due(y.funded(EQUAL), 0);
        due(y.fundedWithCost(0, 100), 1);
        String four = "district a 1000;district b 1000;district c 1000;district d 100;project p 101 d;voter 1 in a d for p;voter 1 in d;set completion 2;";
        due(loaded(four).raises(), 5);
        due(loaded(four).leftOf(EQUAL, 3), 100);
        // each of the two is not too dear alone
        ParticipatoryBudget z = loaded("district a 100;project p 60 a;project q 40 a;voter 1 in a for p;voter 1 in a for q;set completion 2;");
        due(z.raises(), 1);
        due(z.funded(EQUAL), 3);
        due(z.fundedWithCost(1, 41), 2);
        // what nobody supports is not waited for
        ParticipatoryBudget w = loaded("district a 100;project p 60 a;project q 1 a;voter 1 in a for p;voter 1 in a;set completion 2;");
        due(w.raises(), 1);

        of("The results of the last k that is not left out count, those without raise if k = 1 is left out already.");
        due(x.priceIn(0, 0), NONE);
        due(x.meansLeft(0), 100);
        ParticipatoryBudget v = loaded("district a 9;project p 10 a;project q 3 a;voter 1 in a for p q;set completion 2;set step 9;");
        due(v.raises(), 0);
        due(v.funded(EQUAL), 2);
        due(v.purseLeft(0, 0), 6);
        due(v.completed(), 0);
        // with 2 more p is as cheap as q, and q is no longer funded; with 4 more they cost more than 5
        ParticipatoryBudget u = loaded("district a 5;project p 4 a;project q 3 a;voter 2 in a for p q;voter 1 in a;set completion 2;set step 2;");
        due(u.raises(), 1);
        due(u.funded(EQUAL), 1);
        due(u.priceOf(1), NONE);

        of("If all projects that have votes are funded without raise, nothing is raised.");
        x.setCost(0, 50);
        due(x.raises(), 0);
        due(x.purseLeft(1, 0), 50);
        x.setCost(0, 51);
        due(x.raises(), 1);
        due(loaded("district a 9;project p 5 a;voter 1 in a;set completion 2;").raises(), 0);
        due(loaded("district a 9;voter 1 in a;set completion 2;").purseLeft(0, 0), 9);
    }

    // ---- GREEDY

    private static void greedyOrder() {
        of("Each district has left its budget at first.");
        ParticipatoryBudget x = loaded("district a 100000;district b 0;project p 100000 a;voter 1 in a;");
        due(x.leftOf(GREEDY, 0), 100000);
        due(x.leftOf(GREEDY, 1), 0);
        x.setApproval(0, 0, true);
        due(x.leftOf(GREEDY, 0), 0);

        of("The projects that have votes are taken in the greedy order: with ORDER 0 the one with more votes first, with ORDER 1 the one with "
                + "the greater quotient of votes and cost;");
        // votes of 3, 2, 1 and 0
        ParticipatoryBudget y = loaded("district a 100;project p 4 a;project q 3 a;project r 2 a;project s 1 a;voter 1 in a for p q r;voter 1 in a for p q;"
                + "voter 1 in a for p;");
        due(order(y), "0 1 2 -1");
        y.setSetting(ORDER, 1);
        due(order(y), "0 1 2 -1");
        y.setCost(0, 7);
        due(order(y), "1 2 0 -1");
        y.setCost(1, 5);
        due(order(y), "2 0 1 -1");
        y.setSetting(ORDER, 0);
        due(order(y), "0 1 2 -1");

        of("ties are broken by less cost, then by lower index.");
        ParticipatoryBudget z = loaded("district a 100;project p 20 a;project q 10 a;project r 10 a;project s 20 a;voter 1 in a for p q r s;voter 1 in a for s;");
        due(order(z), "3 1 2 0");
        z.setSetting(ORDER, 1);
        due(order(z), "1 2 3 0");
    }

    private static String order(ParticipatoryBudget x) {
        return x.fundedAt(GREEDY, 0) + " " + x.fundedAt(GREEDY, 1) + " " + x.fundedAt(GREEDY, 2) + " " + x.fundedAt(GREEDY, 3);
    }

    private static void greedyPayments() {
        ParticipatoryBudget x = loaded("district a 10;district b 20;district c 30;project p 9 c b a;project q 60 a b c;voter 2 in a for p;voter 1 in b for q;");
        of("A project is funded if its districts have left at least its cost together;");
        x.setCost(0, 60);
        due(x.funded(GREEDY), 1);
        x.setCost(0, 61);
        due(x.funded(GREEDY), 2);
        x.setCost(0, 1);
        due(x.funded(GREEDY), 1);
        x.setCost(1, 59);
        due(x.funded(GREEDY), 3);

        of("the cost is then taken from them in ascending order, from each one as much as is needed and it has left.");
        due(x.paidFrom(GREEDY, 1, 0), 9);
        due(x.paidFrom(GREEDY, 1, 2), 30);
        x.setApproval(1, 1, false);
        due(paid(x, GREEDY, 9), "9 0 0");
        due(x.leftOf(GREEDY, 0), 1);
        due(paid(x, GREEDY, 10), "10 0 0");
        due(paid(x, GREEDY, 11), "10 1 0");
        due(paid(x, GREEDY, 30), "10 20 0");
        due(paid(x, GREEDY, 31), "10 20 1");
        due(x.leftOf(GREEDY, 2), 29);
        due(paid(x, GREEDY, 60), "10 20 30");

        of("Otherwise it is passed over.");
        due(paid(x, GREEDY, 61), "0 0 0");
        ParticipatoryBudget y = loaded("district a 10;project p 11 a;project q 11 a;project r 10 a;voter 3 in a for p;voter 2 in a for q;voter 1 in a for r;");
        due(y.funded(GREEDY), 4);
        due(y.fundedAt(GREEDY, 0), 2);
        due(y.leftOf(GREEDY, 0), 0);
    }

    // ---- BEST

    private static void best() {
        of("A set of projects can be paid if for each set of districts the costs of those projects all of whose districts are in it are not more "
                + "together than the budgets of these districts.");
        ParticipatoryBudget x = loaded("district a 5;district b 5;district c 99;project p 6 a b;project q 4 b a;project r 94 c a;");
        due(x.canBePaid(7), true);
        x.setCost(1, 5);
        due(x.canBePaid(3), false);
        due(x.canBePaid(5), true);
        x.setCost(1, 4);
        x.setCost(2, 99);
        due(x.canBePaid(7), true);
        x.setCost(2, 100);
        due(x.canBePaid(7), false);
        due(x.canBePaid(6), true);
        due(x.canBePaid(0), true);
        due(new ParticipatoryBudget().canBePaid(0), true);
        ParticipatoryBudget largest = loaded(FOUR_DISTRICTS.replace(" 1;", " 100000;") + projects(12, "100000 a b c d"));
        due(largest.canBePaid(0xf00), true);
        due(largest.canBePaid(0xf01), false);

        of("Of all sets that can be paid, the one is taken with the greatest sum of votes times worth;");
        ParticipatoryBudget y = loaded("district a 100;project p 100 a;project q 50 a;project r 50 a;voter 3 in a for p;voter 2 in a for q r;");
        due(y.funded(BEST), 6);
        y.setCost(1, 1);
        due(y.funded(BEST), 6);
        y.setBudget(0, 151);
        due(y.funded(BEST), 7);
        y.undo();
        y.undo();
        y.setSetting(WORTH, 1);
        due(y.funded(BEST), 1);
        y.setCost(0, 101);
        due(y.funded(BEST), 6);
        due(loaded("district a 0;project p 1 a;voter 1 in a for p;").funded(BEST), 0);

        of("ties are broken by less cost altogether, then by the lower bit set.");
        ParticipatoryBudget z = loaded("district a 9;project p 9 a;project q 8 a;project r 8 a;project s 1 a;voter 1 in a for p q r;");
        due(z.funded(BEST), 2);
        z.setCost(2, 7);
        due(z.funded(BEST), 4);
        z.setCost(0, 7);
        due(z.funded(BEST), 1);
    }

    // ---- CHANGES

    private static void change(ParticipatoryBudget x, int kind) {
        switch (kind) {
            case 0 -> x.setBudget(0, 77);
            case 1 -> x.setCost(1, 5);
            case 2 -> x.setWeight(2, 7);
            case 3 -> x.setMember(3, 0, true);
            case 4 -> x.setApproval(0, 2, true);
            default -> x.setSetting(WORTH, 1);
        }
    }

    private static void changes() {
        of("The methods setBudget, setCost, setWeight, setMember, setApproval and setSetting make changes.");
        String untouched = state(loaded(EXAMPLE));
        for (int kind = 0; kind < 6; kind++) {
            ParticipatoryBudget x = loaded(EXAMPLE);
            change(x, kind);
            due(x.undoCount(), 1);
            due(state(x).equals(untouched), false);
        }

        of("A change can be undone;");
        ParticipatoryBudget y = loaded(EXAMPLE);
        for (int kind = 0; kind < 6; kind++) {
            change(y, kind);
        }
        for (int kind = 5; kind >= 0; kind--) {
            due(y.undo(), kind);
        }
        due(y.undo(), NONE);

        of("everything is then as before it.");
        due(state(y), untouched);
        for (int kind = 0; kind < 6; kind++) {
            ParticipatoryBudget x = loaded(EXAMPLE);
            due(state(x), untouched);
            change(x, kind);
            x.funded(EQUAL);
            x.funded(GREEDY);
            x.funded(BEST);
            x.undo();
            due(state(x), untouched);
            due(x.undoCount(), 0);
        }

        ParticipatoryBudget u = loaded("set worth 1;set completion 1;set step 5;set order 1;");
        for (int s = 0; s < 4; s++) {
            int before = u.getSetting(s);
            u.setSetting(s, s == STEP ? 7 : 0);
            u.setSetting(s, 1);
            u.undo();
            due(u.getSetting(s), s == STEP ? 7 : 0);
            u.undo();
            due(u.getSetting(s), before);
        }

        of("At most the 10 latest changes are kept.");
        ParticipatoryBudget z = loaded(EXAMPLE);
        for (int i = 1; i <= 11; i++) {
            z.setCost(0, i);
            due(z.undoCount(), Math.min(i, 10));
        }
        for (int i = 10; i > 0; i--) {
            due(z.costOf(0), i + 1);
            due(z.undo(), i - 1);
        }
        due(z.undo(), NONE);
        due(z.costOf(0), 1);
        due(z.projectCount(), 3);
        // of changes of different kinds, to different things, the first two are forgotten
        ParticipatoryBudget w = loaded(EXAMPLE);
        for (int i = 0; i < 2; i++) {
            for (int kind = 0; kind < 6; kind++) {
                change(w, (kind + i) % 6);
            }
        }
        for (int i = 9; i >= 0; i--) {
            due(w.undo(), i);
        }
        ParticipatoryBudget v = loaded(EXAMPLE);
        change(v, 0);
        change(v, 1);
        due(state(w), state(v));
    }

    private static void refusedCalls() {
        of("A call that returns an error code or throws an exception changes nothing, except where its description says otherwise.");
        ParticipatoryBudget x = loaded(EXAMPLE);
        x.setCost(0, 30);
        feed(x, "set step 7;");
        String before = state(x);
        for (int bad : new int[] {-1, 100001, MIN, MAX}) {
            due(x.setBudget(0, bad) + x.setCost(0, bad) + x.setWeight(0, bad), 3 * BAD);
            due(x.setBudget(bad, 1) + x.setCost(bad, 1) + x.setWeight(bad, 1) + x.setMember(bad, 0, true) + x.setMember(0, bad, true), 5 * NONE);
            due(x.setApproval(bad, 0, true) + x.setApproval(0, bad, true), 2 * NONE);
            due(x.setSetting(bad, 0) + x.setSetting(WORTH, bad) + x.load(bad) + x.funded(bad) + x.getSetting(bad), 5 * BAD);
            noIndex(() -> x.fundedWithBudget(bad, 1), () -> x.fundedWithCost(bad, 1), () -> x.fundedWithout(bad), () -> x.changedWithout(bad),
                    () -> x.greedyLimit(bad), () -> x.bestWithout(bad), () -> x.budgetOf(bad));
            due(x.fundedWithBudget(0, bad) + x.fundedWithCost(0, bad), 2 * BAD);
        }
        due(x.setCost(0, 0), BAD);
        due(x.setWeight(0, 0), BAD);
        due(x.setSetting(STEP, 0), BAD);
        due(state(x), before);
        due(x.undoCount(), 1);
        due(x.errorPosition(), NONE);
        due(x.undo(), 0);
        due(x.costOf(0), 50);
        due(x.load(11), 1);
        due(x.getSetting(STEP), 7);
    }

    // ---- TEXT FORMAT

    private static void tokens() {
        of("Tokens are words (maximal runs of the letters a to z), integers (maximal runs of decimal digits, read as unsigned numbers of any length), "
                + "and the character ';'.");
        ParticipatoryBudget x = loaded("district az 5;district za 0123456789".replace("123456789", "0".repeat(1100) + "99999") + ";voter1in az za;");
        due(x.budgetOf(0), 5);
        due(x.budgetOf(1), 99999);
        due(x.memberships(0), 3);
        error("district a " + "9".repeat(1188) + ";", RANGE, 11);
        // these would be 5 if they went round
        error("district a 4294967301;", RANGE, 11);
        error("district a 18446744073709551621;", RANGE, 11);
        error("district a -4294967291;", SYNTAX, 11);
        error("districta 5;", SYNTAX, 0);
        error("district a5;voter1ina;", SYNTAX, 18);
        error("dis trict a 5;", SYNTAX, 0);
        error("district a 5 0;", SYNTAX, 13);
        error("district a1b 5;", SYNTAX, 11);

        of("Spaces (32) and newlines (10) may stand between tokens.");
        error("\n \n district\na  5\n\n; \n", 1, NONE);
        due(loaded("district a5;project p5a;voter1in a for p;set step7;").getSetting(STEP), 7);
        due(loaded(" ".repeat(600) + "\n".repeat(600)).districtCount(), 0);
        due(loaded(" ".repeat(1189) + "set step 1;").getSetting(STEP), 1);

        of("Any other character is a token that is never allowed.");
        for (int c = 0; c < 256; c++) {
            boolean space = c == ' ' || c == '\n';
            boolean token = c >= 'a' && c <= 'z' || c >= '0' && c <= '9';
            error("set step 1;" + (char) c, space ? 1 : SYNTAX, space ? NONE : 11);
            if (!space && !token) {
                error((char) c + "set step 1;", SYNTAX, 0);
                error("set step 1" + (char) c + ";", SYNTAX, c == ';' ? 11 : 10);
                error("district a" + (char) c + " 5;", SYNTAX, 10);
                error("district a 5;voter 1 in a" + (char) c + ";", SYNTAX, c == ';' ? 26 : 25);
            }
        }
    }

    private static void grammar() {
        of("text      = { statement \";\" }");
        error("", 0, NONE);
        error(" \n", 0, NONE);
        error("set step 1;set order 1;", 2, NONE);
        error(";", SYNTAX, 0);
        error("set step 1;;", SYNTAX, 11);
        error("set step 1", SYNTAX, 10);
        error("set step 1 set order 1;", SYNTAX, 11);
        error("5;", SYNTAX, 0);
        error("in;", SYNTAX, 0);

        of("statement = \"district\" name budget | \"project\" name cost district { district }");
        String four = FOUR_DISTRICTS + "project p 1 ";
        int at = four.length();
        error(four + "a;", 5, NONE);
        error(four + "a b c d;", 5, NONE);
        error(four + ";", SYNTAX, at);
        error(four + "a 5;", SYNTAX, at + 2);
        error(four + "a in;", SYNTAX, at + 2);
        error("district 5;", SYNTAX, 9);
        error("district a;", SYNTAX, 10);
        error("district a a;", SYNTAX, 11);
        error("district a 5 a;", SYNTAX, 13);
        error("project 5 a;", SYNTAX, 8);
        error("project p a;", SYNTAX, 10);
        String one = "district a 1;";
        for (String begun : "district,district e,project,project p,project p 1".split(",")) {
            error(one + begun + ";", SYNTAX, one.length() + begun.length());
        }
        for (String word : "in for worth completion step order name".split(" ")) {
            error(one + word + " e 5;", SYNTAX, one.length());
            error(one + word + " p 1 a;", SYNTAX, one.length());
        }
        error(one + "project e 5;", SYNTAX, one.length() + 11);
        error(one + "district p 1 a;", SYNTAX, one.length() + 13);

        of("| \"voter\" weight \"in\" district { district } [ \"for\" project { project } ] | \"set\" setting integer");
        String all = FOUR_DISTRICTS + projects(12, "1 a");
        error(all + "voter 1 in a b c d for m n o p q r s t u v w x;", 17, NONE);
        error(all + "voter 1 in d;", 17, NONE);
        error(all + "voter in a;", SYNTAX, all.length() + 6);
        error(all + "voter 1 a;", SYNTAX, all.length() + 8);
        error(all + "voter 1 in;", SYNTAX, all.length() + 10);
        error(all + "voter 1 in for m;", SYNTAX, all.length() + 11);
        error(all + "voter 1 in a for;", SYNTAX, all.length() + 16);
        error(all + "voter 1 in a 5;", SYNTAX, all.length() + 13);
        error(all + "voter 1 in a for m for n;", SYNTAX, all.length() + 19);
        error(all + "voter 1 for m in a;", SYNTAX, all.length() + 8);
        for (String begun : "voter,voter 1,voter 1 in,voter 1 in a for,set,set step".split(",")) {
            error(all + begun + ";", SYNTAX, all.length() + begun.length());
        }
        for (String word : "district project voter for set worth completion step order name".split(" ")) {
            error(all + "voter 1 " + word + " a;", SYNTAX, all.length() + 8);
        }
        for (String word : "district project voter in set worth completion step order".split(" ")) {
            error(all + "voter 1 in a " + word + " m;", SYNTAX, all.length() + 13);
        }
        for (String word : "in for worth completion step order name".split(" ")) {
            error(all + word + " 1 in a;", SYNTAX, all.length());
            error(all + word + " worth 1;", SYNTAX, all.length());
        }
        error("set 5;", SYNTAX, 4);
        error("set step a;", SYNTAX, 9);
        error("set step 1 1;", SYNTAX, 11);

        of("setting   = \"worth\" | \"completion\" | \"step\" | \"order\"");
        error("set worth 1;set completion 1;set step 1;set order 1;", 4, NONE);
        for (String word : "district project voter in for set wort worths completio completions ste steps orde orders a".split(" ")) {
            error("set " + word + " 1;", SYNTAX, 4);
        }
    }

    private static void names() {
        of("A name is a word of 1 to 6 letters other than district, project, voter, in, for, set, worth, completion, step and order.");
        due(loaded("district a 1;district zzzzzz 1;project abcdef 1 zzzzzz;").projectNamed(letters("abcdef")), 0);
        error("district abcdefg 1;", SYNTAX, 9);
        error("district a 1;project abcdefg 1 a;", SYNTAX, 21);
        error("district a 1;project p 1 abcdefg;", SYNTAX, 25);
        error("district a 1;project p 1 a abcdefg;", SYNTAX, 27);
        for (String word : "district project voter in for set worth completion step order".split(" ")) {
            error("district " + word + " 1;", SYNTAX, 9);
            error("district a 1;project " + word + " 1 a;", SYNTAX, 21);
            error("district a 1;voter 1 in " + word + ";", SYNTAX, 24);
        }
        for (String word : "i inn fo fore se sets wort worths ste steps orde orders vote voters distri projec comple".split(" ")) {
            error("district " + word + " 1;", 1, NONE);
        }

        of("Districts and projects have one name space in common;");
        error("district a 1;project a 1 a;", DUPLICATE, 21);
        error("district a 1;project p 1 a;district p 1;", DUPLICATE, 36);

        of("behind their declarations they are given by their names.");
        error("district a 1;project p 1 a;voter 1 in a for p;", 3, NONE);
        error("project p 1 a;district a 1;", NAME, 12);
        error("district a 1;project p 1 p;", NAME, 25);
        error("district a 1;voter 1 in a for p;project p 1 a;", NAME, 30);

        of("The list behind \"for\" has the projects that the voter approves.");
        String all = "district a 1;district b 1;" + projects(12, "1 b");
        ParticipatoryBudget x = loaded(all + "voter 1 in a;voter 1 in a for x;voter 1 in b for x w v u t s r q p o n m;");
        due(x.approvals(0), 0);
        due(x.approvals(1), 1 << 11);
        due(x.approvals(2), 4095);
        due(x.supporters(11), 4);
    }

    private static void errorOrder() {
        of("The first error in the order of the text is reported, at the position of the first character of its token.");
        error("district a 100001;district a 100001;", RANGE, 11);
        error("district a 1;district a 100001;#", DUPLICATE, 22);
        error("district a 1;project p 0 b;", RANGE, 23);
        error("district a 1;project p 1 b b;", NAME, 25);
        error("   set   step   00000;", RANGE, 16);
        error("set step 1001", RANGE, 9);
        error("set step 1;set step 1001;", DUPLICATE, 15);
        error("district abcdefghij 5;", SYNTAX, 9);
        error(" ".repeat(1199) + "a", SYNTAX, 1199);

        of("If several errors apply to one token, the one listed first is reported.");
        // a word that is one too many, where it is not allowed anyway
        error(FOUR_DISTRICTS + "voter 1 district;", SYNTAX, FOUR_DISTRICTS.length() + 8);
        error(FOUR_DISTRICTS + "district", COUNT, FOUR_DISTRICTS.length());
        String twelve = "district a 1;" + projects(12, "1 a");
        error(twelve + "district project 1;", SYNTAX, twelve.length() + 9);
        String voters = "district a 1;" + "voter 1 in a;".repeat(24);
        error(voters + "district voter 1;", SYNTAX, voters.length() + 9);
        // a number too large, and a name given before or unknown, where there should be another token
        error("district a 1;project p 1 100001;", SYNTAX, 25);
        error("district a 1;district b a;", SYNTAX, 24);
        error("district a 1;zzz", SYNTAX, 13);
        error("set step 1;set order step;", SYNTAX, 21);
    }

    private static void errors() {
        of("SYNTAX_ERROR: the token is not allowed here;");
        error("name", SYNTAX, 0);
        error("district a a;", SYNTAX, 11);
        error("voter 1 for p;", SYNTAX, 8);

        of("if the text ends too early, the position is its length.");
        String text = "district a 5;project p 5 a;voter 1 in a for p;set step 7;";
        for (int length = 1; length < text.length(); length++) {
            boolean inWord = text.substring(length - 1, length + 1).matches("[a-z]{2}");
            if (!inWord && text.charAt(length - 1) != ';') {
                error(text.substring(0, length), SYNTAX, length);
            }
        }
        error("district a 5  \n ", SYNTAX, 16);

        of("RANGE_ERROR: an integer is outside its range.");
        for (int budget : new int[] {0, 1, 100000}) {
            error("district a " + budget + ";", 1, NONE);
        }
        error("district a 100001;", RANGE, 11);
        for (int cost : new int[] {0, 1, 100000, 100001}) {
            error("district a 1;project p " + cost + " a;", cost % 100000 < 2 && cost % 100001 > 0 ? 2 : RANGE, cost % 100001 > 0 ? NONE : 23);
        }
        for (int weight = 0; weight < 12; weight++) {
            boolean good = weight > 0 && weight < 10;
            error("district a 1;voter " + weight + " in a;", good ? 2 : RANGE, good ? NONE : 19);
        }
        for (String good : "worth 0;worth 1;completion 0;completion 2;step 1;step 1000;order 0;order 1".split(";")) {
            error("set " + good + ";", 1, NONE);
        }
        for (String bad : "worth 2;completion 3;step 0;step 1001;order 2;order 4294967296".split(";")) {
            error("set " + bad + ";", RANGE, 5 + bad.indexOf(' '));
        }

        of("NAME_ERROR: a name that is not that of a district or a project, respectively.");
        error("district a 1;project p 1 a;project q 1 p;", NAME, 39);
        error("district a 1;project p 1 a;project q 1 a x;", NAME, 41);
        error("district a 1;project p 1 a;voter 1 in p;", NAME, 38);
        error("district a 1;project p 1 a;voter 1 in a p;", NAME, 40);
        error("district a 1;project p 1 a;voter 1 in a for a;", NAME, 44);
        error("district a 1;project p 1 a;voter 1 in a for p a;", NAME, 46);
        error("voter 1 in a;", NAME, 11);
        duplicatesAndCounts();
    }

    private static void duplicatesAndCounts() {
        of("DUPLICATE_ERROR: a name that is already declared, in a district or project statement;");
        error("district a 1;district a 1;", DUPLICATE, 22);
        error("district a 1;project a 1 a;", DUPLICATE, 21);
        error("district a 1;project p 1 a;project p 1 a;", DUPLICATE, 35);
        error("district a 1;project p 1 a;district p 1;", DUPLICATE, 36);
        error("district a 1;district ab 1;project b 1 a;", 3, NONE);
        // only what stands in the same text is declared
        ParticipatoryBudget x = loaded("district a 1;");
        due(load(x, "district a 2;"), 1);
        due(load(x, "district b 2;district b 2;"), DUPLICATE);
        due(load(x, "district b 2;"), 1);

        of("a district or project that was already given in the same list;");
        error("district a 1;district b 1;project p 1 a b a;", DUPLICATE, 42);
        error("district a 1;district b 1;voter 1 in b b;", DUPLICATE, 39);
        String two = "district a 1;project p 1 a;project q 1 a;";
        error(two + "voter 1 in a for q p q;", DUPLICATE, two.length() + 21);
        error(two + "voter 1 in a for q p;voter 1 in a for q p;", 5, NONE);

        of("the name of a setting that was already given.");
        error("set worth 1;set worth 1;", DUPLICATE, 16);
        error("set completion 1;set completion 0;", DUPLICATE, 21);
        error("set step 1;set order 1;set step 2;", DUPLICATE, 27);
        error("set order 1;set order", DUPLICATE, 16);
        ParticipatoryBudget y = loaded("set step 1;");
        due(load(y, "set step 2;"), 1);

        of("COUNT_ERROR: the word district of a fifth district, project of a 13th project, or voter of a 25th voter.");
        error(FOUR_DISTRICTS, 4, NONE);
        error(FOUR_DISTRICTS + " district a 100001", COUNT, FOUR_DISTRICTS.length() + 1);
        String twelve = "district a 1;" + projects(12, "1 a");
        error(twelve, 13, NONE);
        error(twelve + "\nproject m 0 z", COUNT, twelve.length() + 1);
        String voters = "district a 1;" + "voter 1 in a;".repeat(24);
        error(voters, 25, NONE);
        error(voters + "voter", COUNT, voters.length());
    }
}
