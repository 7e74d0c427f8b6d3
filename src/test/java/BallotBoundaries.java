/** Sentences of the promises 1 to 21, of the text and of what the ballot says, each with the cases at its edges. */
final class BallotBoundaries extends Sentences {
    private static final int[] SPACES = {0x20202020, 0x20202020, 0x20202020, 0x20202020, 0x20202020};

    static final Call[] TESTS = {BallotBoundaries::newObject, BallotBoundaries::feed, BallotBoundaries::load,
        BallotBoundaries::loadWithErrors, BallotBoundaries::errorPosition, BallotBoundaries::counts, BallotBoundaries::names,
        BallotBoundaries::districtsAndProjects, BallotBoundaries::voters, BallotBoundaries::getSetting,
        BallotBoundaries::supportersAndVotes, BallotBoundaries::purse, BallotBoundaries::firstPrice};

    private BallotBoundaries() {
    }

    private static int feedSpaces(ParticipatoryBudget x) {
        return x.feed(SPACES[0], SPACES[1], SPACES[2], SPACES[3], SPACES[4]);
    }

    private static void newObject() {
        promise(1);
        of("Creates a ballot without districts, projects and voters, with initial settings, an empty input buffer and no changes to undo.");
        ParticipatoryBudget x = new ParticipatoryBudget();
        due(x.districtCount(), 0);
        due(x.projectCount(), 0);
        due(x.voterCount(), 0);
        due(x.getSetting(WORTH), 0);
        due(x.getSetting(COMPLETION), 0);
        due(x.getSetting(STEP), 10);
        due(x.getSetting(ORDER), 0);
        due(x.undoCount(), 0);
        due(x.undo(), NONE);
        due(x.load(1), BAD);
        due(x.load(0), 0);
        due(feedSpaces(x), 20);
        // one object knows nothing of another
        load(x, EXAMPLE);
        x.setSetting(WORTH, 1);
        ParticipatoryBudget y = new ParticipatoryBudget();
        due(y.districtCount() + y.projectCount() + y.voterCount() + y.undoCount() + y.getSetting(WORTH), 0);
        due(y.load(1), BAD);
    }

    private static void feed() {
        promise(2);
        of("Appends 20 bytes to the input buffer: the four bytes of each parameter, most significant byte first.");
        ParticipatoryBudget x = new ParticipatoryBudget();
        // "dist" "rict" " abc" "def " "10 ;"
        due(x.feed(0x64697374, 0x72696374, 0x20616263, 0x64656620, 0x3130203b), 20);
        due(x.load(20), 1);
        due(x.budgetOf(0), 10);
        due(x.districtNamed(letters("abcdef")), 0);
        // bytes from 128 on, and a parameter below 0
        due(x.feed(0x20202020, -1, 0x80808080, MIN, MAX), 20);
        due(x.load(20), SYNTAX);
        due(x.errorPosition(), 4);

        of("- `a`: first four bytes");
        due(x.feed(0x73657420, SPACES[1], SPACES[2], SPACES[3], SPACES[4]), 20);
        due(x.load(20), SYNTAX);
        due(x.errorPosition(), 20);

        of("Returns the new number of bytes in the buffer;");
        ParticipatoryBudget y = new ParticipatoryBudget();
        for (int i = 1; i <= 60; i++) {
            due(feedSpaces(y), 20 * i);
        }
        due(y.load(7), 0);
        due(feedSpaces(y), 20);
        due(y.load(21), BAD);
        due(feedSpaces(y), 40);

        of("FULL if the buffer would hold more than 1200 bytes (nothing is appended then).");
        for (int i = 3; i <= 60; i++) {
            due(feedSpaces(y), 20 * i);
        }
        due(y.feed(0x78787878, 0x78787878, 0x78787878, 0x78787878, 0x78787878), FULL);
        due(y.feed(0, 0, 0, 0, 0), FULL);
        due(y.load(1201), BAD);
        due(y.feed(0, 0, 0, 0, 0), FULL);
        due(y.load(1200), 0);
        due(feedSpaces(y), 20);
    }

    private static void load() {
        promise(3);
        of("Replaces the ballot by the one described by the first length bytes of the input buffer (see TEXT FORMAT) and empties the buffer.");
        ParticipatoryBudget x = loaded(EXAMPLE);
        x.setSetting(WORTH, 1);
        x.setSetting(STEP, 8);
        due(x.fundedWithout(1), 5);
        feed(x, "district q 5;set step 7;");
        due(x.load(13), 1);
        due(x.districtCount(), 1);
        due(x.projectCount(), 0);
        due(x.voterCount(), 0);
        due(x.getSetting(WORTH), 0);
        due(x.getSetting(STEP), 10);
        due(x.load(1), BAD);
        due(feedSpaces(x), 20);
        for (int i = 0; i < 3; i++) {
            load(x, "set worth 1;set completion 2;set step 7;set order 1;");
            load(x, "set step 9;");
            due(x.getSetting(WORTH) + x.getSetting(COMPLETION) + x.getSetting(ORDER), 0);
            due(x.getSetting(STEP), 9);
        }
        // nothing is left of a larger ballot, in no rule
        ParticipatoryBudget y = loaded(FULL_BALLOT + "set completion 1;");
        due(y.funded(EQUAL) + y.funded(GREEDY) + y.funded(BEST) > 0, true);
        due(load(y, EXAMPLE), 10);
        due(state(y), state(loaded(EXAMPLE)));
        due(y.load(0), 0);
        due(state(y), state(new ParticipatoryBudget()));

        of("After a successful load nothing can be undone.");
        ParticipatoryBudget z = loaded(EXAMPLE);
        z.setCost(0, 1);
        z.setCost(0, 2);
        due(z.load(0), 0);
        due(z.undoCount(), 0);
        due(z.undo(), NONE);
        due(z.projectCount(), 0);

        of("- `length`: number of bytes to read, from 0 to the number of bytes in the buffer");
        ParticipatoryBudget w = new ParticipatoryBudget();
        due(w.load(0), 0);
        feedSpaces(w);
        due(w.load(0), 0);
        feedSpaces(w);
        due(w.load(20), 0);
        // the end of the length cuts a number, a word and a statement
        feed(w, "set step 100;set order 1;");
        due(w.load(13), 1);
        due(w.getSetting(STEP), 100);
        feed(w, "district a 100000000;");
        due(w.load(17), SYNTAX);
        due(w.errorPosition(), 17);
        feed(w, "district abcdefghi 5;");
        due(w.load(15), SYNTAX);
        due(w.errorPosition(), 15);

        of("Returns the number of statements;");
        due(load(w, ""), 0);
        due(load(w, "set step 1;"), 1);
        due(load(w, FULL_BALLOT + "set worth 1;set completion 2;set step 5;set order 1;"), 44);

        of("BAD_VALUE if length is out of range (the buffer is unchanged then);");
        ParticipatoryBudget v = new ParticipatoryBudget();
        due(v.load(1), BAD);
        feed(v, "set step 7;         ");
        for (int length : new int[] {-1, 21, 1200, 1201, MIN, MAX}) {
            due(v.load(length), BAD);
        }
        due(v.getSetting(STEP), 10);
        due(feedSpaces(v), 40);
        due(v.load(40), 1);
        due(v.getSetting(STEP), 7);
    }

    private static void loadWithErrors() {
        String[] texts = {"district q 5;x", "district q 100001;", "district q 5;voter 1 in r;", "district q 5;district q 5;",
            "district q 5;district r 5;district s 5;district t 5;district u 5;"};
        int[] codes = {SYNTAX, RANGE, NAME, DUPLICATE, COUNT};
        of("If the text has an error, nothing but the buffer changes: it is emptied all the same.");
        String before = state(loaded(EXAMPLE));
        for (String text : texts) {
            ParticipatoryBudget x = loaded(EXAMPLE);
            x.setCost(0, 7);
            x.setCost(0, 50);
            due(load(x, text) < 0, true);
            due(state(x), before);
            due(x.districtNamed(letters("q")), NONE);
            due(x.districtNamed(letters("a")), 0);
            due(x.undoCount(), 2);
            due(x.load(1), BAD);
            due(feedSpaces(x), 20);
            due(x.undo(), 1);
            due(x.costOf(0), 7);
        }
        // what stands behind the length goes too
        ParticipatoryBudget y = new ParticipatoryBudget();
        feed(y, "set step 7;set order 1;");
        due(y.load(3), SYNTAX);
        due(feedSpaces(y), 20);

        of("SYNTAX_ERROR, RANGE_ERROR, NAME_ERROR, DUPLICATE_ERROR or COUNT_ERROR.");
        for (int i = 0; i < 5; i++) {
            due(load(new ParticipatoryBudget(), texts[i]), codes[i]);
        }
    }

    private static void errorPosition() {
        promise(4);
        ParticipatoryBudget x = new ParticipatoryBudget();
        of("NOT_FOUND if that load had no error or there was none.");
        due(x.errorPosition(), NONE);
        due(x.load(1), BAD);
        due(x.errorPosition(), NONE);
        due(load(x, "x"), SYNTAX);
        due(load(x, "set step 1;"), 1);
        due(x.errorPosition(), NONE);
        due(load(x, "x"), SYNTAX);
        due(x.load(0), 0);
        due(x.errorPosition(), NONE);

        of("Returns the position of the error of the latest load that did not return BAD_VALUE.");
        due(load(x, "set step 0;"), RANGE);
        due(x.errorPosition(), 9);
        due(x.load(-1), BAD);
        due(x.load(1), BAD);
        due(x.errorPosition(), 9);
        x.setSetting(STEP, 5);
        x.undo();
        feed(x, "set");
        due(x.errorPosition(), 9);
        due(x.load(3), SYNTAX);
        due(x.errorPosition(), 3);

        of("Returns the position in bytes from the start of the text;");
        due(load(x, "#"), SYNTAX);
        due(x.errorPosition(), 0);
        due(load(x, " ".repeat(1199) + "#"), SYNTAX);
        due(x.errorPosition(), 1199);
        due(load(x, "set" + " ".repeat(1197)), SYNTAX);
        due(x.errorPosition(), 1200);
    }

    private static void counts() {
        ParticipatoryBudget none = new ParticipatoryBudget();
        ParticipatoryBudget all = loaded(FULL_BALLOT);
        promise(5);
        of("Returns 0 to 4.");
        due(none.districtCount(), 0);
        due(loaded("district a 0;").districtCount(), 1);
        due(all.districtCount(), 4);
        promise(6);
        of("Returns 0 to 12.");
        due(none.projectCount(), 0);
        due(loaded("district a 0;project p 1 a;").projectCount(), 1);
        due(all.projectCount(), 12);
        promise(7);
        of("Returns 0 to 24.");
        due(none.voterCount(), 0);
        due(loaded("district a 0;voter 1 in a;").voterCount(), 1);
        due(all.voterCount(), 24);
        promise(8);
        of("Returns 0 to 10.");
        due(none.undoCount(), 0);
        for (int i = 1; i <= 13; i++) {
            none.setSetting(STEP, i);
            due(none.undoCount(), Math.min(i, 10));
        }
        for (int i = 9; i >= 0; i--) {
            none.undo();
            due(none.undoCount(), i);
        }
        none.undo();
        due(none.undoCount(), 0);
    }

    private static void names() {
        ParticipatoryBudget x = loaded("district a 1;district z 1;district zzzzzz 1;district ab 1;"
                + "project b 1 a;project y 1 a;project yzzzzz 1 a;project ba 1 a;");
        promise(9);
        of("- `letters`: the name as six groups of 5 bits, the first letter in the highest group;");
        due(x.districtNamed(26 << 25 | 26 << 20 | 26 << 15 | 26 << 10 | 26 << 5 | 26), 2);
        due(x.districtNamed(1 << 25 | 2 << 20), 3);
        due(x.districtNamed(2 << 25 | 1 << 20), NONE);
        due(x.districtNamed(1 << 25 | 1 << 30), NONE);
        due(x.districtNamed(1 << 25 | MIN), NONE);
        of("a is 1, z is 26;");
        due(x.districtNamed(1 << 25), 0);
        due(x.districtNamed(26 << 25), 1);
        due(x.districtNamed(27 << 25), NONE);
        due(x.districtNamed(31 << 25), NONE);
        of("unused groups at the end are 0");
        due(x.districtNamed(1), NONE);
        due(x.districtNamed(1 << 20), NONE);
        due(x.districtNamed(1 << 25 | 1), NONE);
        due(x.districtNamed(1 << 25 | 31 << 20), NONE);
        of("NOT_FOUND if there is none with that name.");
        due(x.districtNamed(letters("zzzzz")), NONE);
        due(x.districtNamed(letters("b")), NONE);
        due(x.districtNamed(0), NONE);
        due(x.districtNamed(-1), NONE);
        due(x.districtNamed(MIN), NONE);
        due(new ParticipatoryBudget().districtNamed(0), NONE);
        // a name of a ballot that is gone
        load(x, "district c 1;project d 1 c;");
        due(x.districtNamed(letters("z")), NONE);
        promise(10);
        of("NOT_FOUND if there is none with that name.");
        due(x.projectNamed(letters("y")), NONE);
        due(x.projectNamed(letters("d")), 0);
        due(x.projectNamed(letters("c")), NONE);
        due(x.projectNamed(letters("dd")), NONE);
        due(x.projectNamed(letters("d") | 1), NONE);
        due(x.projectNamed(letters("d") | MIN), NONE);
        due(x.projectNamed(0), NONE);
        due(x.projectNamed(-1), NONE);
        due(new ParticipatoryBudget().projectNamed(0), NONE);
    }

    private static void districtsAndProjects() {
        ParticipatoryBudget x = loaded("district a 0;district b 100000;district c 5;district d 6;project p 1 a;project q 100000 d;project r 7 b c;");
        promise(11);
        of("Returns 0 to 100000.");
        due(x.budgetOf(0), 0);
        due(x.budgetOf(1), 100000);
        of("Throws `IndexOutOfBoundsException` if district is not a valid index");
        districtIndex(ParticipatoryBudget::budgetOf);
        promise(12);
        of("Returns 1 to 100000.");
        due(x.costOf(0), 1);
        due(x.costOf(1), 100000);
        of("Throws `IndexOutOfBoundsException` if project is not a valid index");
        projectIndex(ParticipatoryBudget::costOf);
        promise(13);
        of("Returns the districts as a bit set: bit d is 1 for district d.");
        due(x.districtsOf(0), 1);
        due(x.districtsOf(1), 8);
        due(x.districtsOf(2), 6);
        of("Throws `IndexOutOfBoundsException` if project is not a valid index");
        projectIndex(ParticipatoryBudget::districtsOf);
    }

    private static void voters() {
        ParticipatoryBudget x = loaded("district a 1;district b 1;district c 1;district d 1;" + projects(12, "1 a") + "voter 1 in d for x;voter 9 in a d;");
        promise(14);
        of("Returns the districts as a bit set.");
        due(x.memberships(0), 8);
        due(x.memberships(1), 9);
        x.setMember(0, 3, false);
        due(x.memberships(0), 0);
        of("Throws `IndexOutOfBoundsException` if voter is not a valid index");
        voterIndex(ParticipatoryBudget::memberships);
        promise(15);
        of("Returns the projects as a bit set: bit p is 1 for project p.");
        due(x.approvals(0), 1 << 11);
        due(x.approvals(1), 0);
        of("Throws `IndexOutOfBoundsException` if voter is not a valid index");
        voterIndex(ParticipatoryBudget::approvals);
        promise(16);
        of("Returns 1 to 9.");
        due(x.weightOf(0), 1);
        due(x.weightOf(1), 9);
        of("Throws `IndexOutOfBoundsException` if voter is not a valid index");
        voterIndex(ParticipatoryBudget::weightOf);
    }

    private static void getSetting() {
        promise(17);
        of("BAD_VALUE if setting is none of these.");
        ParticipatoryBudget x = new ParticipatoryBudget();
        for (int setting : new int[] {-1, 4, MIN, MAX}) {
            due(x.getSetting(setting), BAD);
        }
        due(x.getSetting(WORTH), 0);
        due(x.getSetting(ORDER), 0);
    }

    private static void supportersAndVotes() {
        ParticipatoryBudget x = loaded(FULL_BALLOT);
        promise(18);
        of("Returns the voters as a bit set: bit v is 1 for voter v.");
        due(x.supporters(0), 0xfff);
        due(x.supporters(11), 0xfff000);
        due(x.supporters(5), 0);
        of("Throws `IndexOutOfBoundsException` if project is not a valid index");
        projectIndex(ParticipatoryBudget::supporters);
        promise(19);
        of("Returns the sum of the weights of its supporters.");
        due(x.votesFor(0), 12);
        due(x.votesFor(11), 108);
        due(x.votesFor(5), 0);
        of("Throws `IndexOutOfBoundsException` if project is not a valid index");
        projectIndex(ParticipatoryBudget::votesFor);
    }

    private static void purse() {
        promise(20);
        of("Returns what a purse holds at first, without raise.");
        ParticipatoryBudget x = loaded(RAISED);
        due(x.raises(), 3);
        due(x.purse(0, 0), 50);
        due(x.purse(1, 0), 50);
        due(loaded("district a 9;project p 9 a;voter 1 in a for p;").purse(0, 0), 9);
        of("0 if the voter is not a member of the district.");
        x.setMember(1, 0, false);
        due(x.purse(1, 0), 0);
        due(x.purse(0, 0), 100);
        x.setMember(0, 0, false);
        due(x.purse(0, 0), 0);
        due(loaded(EXAMPLE).purse(0, 1), 0);
        of("Throws `IndexOutOfBoundsException` if voter or district is not a valid index");
        voterIndex((y, v) -> y.purse(v, 0));
        districtIndex((y, d) -> y.purse(0, d));
    }

    private static void firstPrice() {
        promise(21);
        of("Returns the first price of a project: the price that it has in the first round of EQUAL SHARES, without raise.");
        // p takes 20 from the first of two purses of 35; then q is dearer
        ParticipatoryBudget x = loaded("district a 70;project p 20 a;project q 44 a;voter 1 in a for p q;voter 1 in a for q;");
        due(x.priceOf(1), 29);
        due(x.firstPrice(1), 22);
        due(x.firstPrice(0), 20);
        // without raise the first voter has 10 and the second one pays 51; with 10 more 20 and 41
        ParticipatoryBudget y = loaded("district a 20;district b 90;project p 61 a b;project q 95 b;voter 1 in a for p;voter 1 in b for p q;voter 1 in a;set completion 2;");
        due(y.raises(), 1);
        due(y.priceIn(0, 0), 41);
        due(y.firstPrice(0), 51);
        due(y.priceIn(1, 0), 95);
        due(y.firstPrice(1), NONE);
        of("NOT_FOUND if the means of its supporters are less than its cost together.");
        y.setCost(0, 100);
        due(y.firstPrice(0), 90);
        y.setCost(0, 101);
        due(y.firstPrice(0), NONE);
        due(loaded(RAISED).firstPrice(0), NONE);
        due(loaded("district a 9;project p 1 a;voter 1 in a;").firstPrice(0), NONE);
        due(loaded("district a 9;project p 1 a;").firstPrice(0), NONE);
        of("Throws `IndexOutOfBoundsException` if project is not a valid index");
        projectIndex(ParticipatoryBudget::firstPrice);
    }
}
