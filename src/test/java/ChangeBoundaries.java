/** Sentences of the promises 59 to 65, of the changes, each with the cases at its edges. */
final class ChangeBoundaries extends Sentences {
    private static final int[] WRONG_INDICES = {-1, 24, 25, MIN, MAX};

    static final Call[] TESTS = {ChangeBoundaries::sameValues, ChangeBoundaries::setBudget, ChangeBoundaries::setCost,
        ChangeBoundaries::setWeight, ChangeBoundaries::setMember, ChangeBoundaries::setApproval, ChangeBoundaries::setSetting,
        ChangeBoundaries::undo};

    private ChangeBoundaries() {
    }

    private static void sameValues() {
        promise(59);
        of("Setting the value that it already has is also a change;");
        ParticipatoryBudget x = loaded(EXAMPLE);
        due(x.setBudget(0, 100), 100);
        due(x.undoCount(), 1);
        x.setBudget(0, 5);
        x.setBudget(0, 5);
        due(x.undo(), 2);
        due(x.budgetOf(0), 5);
        due(x.undo(), 1);
        due(x.budgetOf(0), 100);
        due(x.undo(), 0);
        due(x.undo(), NONE);
        of("likewise below.");
        ParticipatoryBudget y = loaded(EXAMPLE);
        due(y.setCost(0, 50), 50);
        due(y.undoCount(), 1);
        due(y.setWeight(2, 2), 2);
        due(y.undoCount(), 2);
        due(y.setMember(2, 1, true), 3);
        due(y.undoCount(), 3);
        due(y.setMember(0, 1, false), 1);
        due(y.undoCount(), 4);
        due(y.setApproval(0, 0, true), 2);
        due(y.undoCount(), 5);
        due(y.setApproval(1, 2, false), 3);
        due(y.undoCount(), 6);
        due(y.setSetting(STEP, 10), 10);
        due(y.undoCount(), 7);
        due(state(y), state(loaded(EXAMPLE)));
        // they push older ones out
        y.setSetting(WORTH, 1);
        for (int i = 0; i < 10; i++) {
            y.setSetting(WORTH, 1);
        }
        for (int i = 9; i >= 0; i--) {
            due(y.undo(), i);
            due(y.getSetting(WORTH), 1);
        }
        due(y.undo(), NONE);
    }

    private static void setBudget() {
        promise(59);
        ParticipatoryBudget x = loaded(EXAMPLE);
        of("- `budget`: 0 to 100000");
        due(x.setBudget(1, 0), 60);
        due(x.budgetOf(1), 0);
        due(x.setBudget(1, 100000), 0);
        due(x.setBudget(1, 7), 100000);
        of("NOT_FOUND if district is not a valid index (checked first);");
        due(x.setBudget(2, 5), NONE);
        due(x.setBudget(2, -1), NONE);
        for (int bad : WRONG_INDICES) {
            due(x.setBudget(bad, 5), NONE);
            due(x.setBudget(bad, 100001), NONE);
        }
        due(loaded(FULL_BALLOT).setBudget(3, 5), 80);
        due(loaded(FULL_BALLOT).setBudget(4, 5), NONE);
        due(new ParticipatoryBudget().setBudget(0, 5), NONE);
        of("BAD_VALUE if budget is out of range.");
        for (int bad : new int[] {-1, 100001, MIN, MAX}) {
            due(x.setBudget(1, bad), BAD);
        }
        due(x.budgetOf(1), 7);
        due(x.undoCount(), 3);
    }

    private static void setCost() {
        promise(60);
        ParticipatoryBudget x = loaded(EXAMPLE);
        of("- `cost`: 1 to 100000");
        due(x.setCost(2, 1), 40);
        due(x.costOf(2), 1);
        due(x.setCost(2, 100000), 1);
        due(x.setCost(2, 7), 100000);
        of("NOT_FOUND if project is not a valid index (checked first);");
        due(x.setCost(3, 5), NONE);
        due(x.setCost(3, 0), NONE);
        for (int bad : WRONG_INDICES) {
            due(x.setCost(bad, 5), NONE);
            due(x.setCost(bad, 100001), NONE);
        }
        due(loaded(FULL_BALLOT).setCost(11, 5), 9);
        due(loaded(FULL_BALLOT).setCost(12, 5), NONE);
        due(new ParticipatoryBudget().setCost(0, 5), NONE);
        of("BAD_VALUE if cost is out of range.");
        for (int bad : new int[] {0, -1, 100001, MIN, MAX}) {
            due(x.setCost(2, bad), BAD);
        }
        due(x.costOf(2), 7);
        due(x.undoCount(), 3);
    }

    private static void setWeight() {
        promise(61);
        ParticipatoryBudget x = loaded(EXAMPLE);
        of("- `weight`: 1 to 9");
        for (int weight = 1; weight < 10; weight++) {
            due(x.setWeight(3, weight), Math.max(1, weight - 1));
            due(x.weightOf(3), weight);
        }
        of("NOT_FOUND if voter is not a valid index (checked first);");
        due(x.setWeight(4, 5), NONE);
        due(x.setWeight(4, 0), NONE);
        for (int bad : WRONG_INDICES) {
            due(x.setWeight(bad, 5), NONE);
            due(x.setWeight(bad, 10), NONE);
        }
        due(loaded(FULL_BALLOT).setWeight(23, 5), 9);
        due(loaded(FULL_BALLOT).setWeight(24, 5), NONE);
        due(new ParticipatoryBudget().setWeight(0, 5), NONE);
        of("BAD_VALUE if weight is out of range.");
        for (int bad : new int[] {0, -1, 10, MIN, MAX}) {
            due(x.setWeight(3, bad), BAD);
        }
        due(x.weightOf(3), 9);
        due(x.undoCount(), 9);
    }

    private static void setMember() {
        promise(62);
        ParticipatoryBudget x = loaded(FULL_BALLOT);
        of("Makes a voter a member of a district, or not a member.");
        due(x.setMember(0, 3, true), 11);
        due(x.memberships(0), 11);
        due(x.setMember(0, 0, false), 10);
        due(x.setMember(0, 1, false), 8);
        due(x.setMember(0, 3, false), 0);
        due(x.setMember(0, 3, false), 0);
        due(x.setMember(23, 0, true), 13);
        due(x.memberships(22), 12);
        of("NOT_FOUND if voter or district is not a valid index.");
        for (int bad : WRONG_INDICES) {
            due(x.setMember(bad, 0, true), NONE);
            due(x.setMember(0, bad, true), NONE);
            due(x.setMember(bad, bad, false), NONE);
        }
        due(x.setMember(0, 4, true), NONE);
        due(loaded(EXAMPLE).setMember(4, 0, true), NONE);
        due(loaded(EXAMPLE).setMember(0, 2, true), NONE);
        due(new ParticipatoryBudget().setMember(0, 0, true), NONE);
        due(x.undoCount(), 6);
        due(x.memberships(0), 0);
    }

    private static void setApproval() {
        promise(63);
        ParticipatoryBudget x = loaded(FULL_BALLOT);
        of("Makes a voter approve a project, or not approve it.");
        due(x.setApproval(23, 2, true), 9);
        due(x.approvals(23), 0xc04);
        due(x.setApproval(23, 11, false), 99);
        due(x.approvals(23), 0x404);
        due(x.setApproval(23, 11, false), 99);
        due(x.approvals(22), 0xc00);
        // who is in none of its districts gives it no votes
        due(x.setMember(0, 0, false), 2);
        due(x.setApproval(0, 11, true), 99);
        due(x.approvals(0), 0x803);
        of("NOT_FOUND if voter or project is not a valid index.");
        for (int bad : WRONG_INDICES) {
            due(x.setApproval(bad, 0, true), NONE);
            due(x.setApproval(0, bad, true), NONE);
            due(x.setApproval(bad, bad, false), NONE);
        }
        due(x.setApproval(0, 12, true), NONE);
        due(loaded(EXAMPLE).setApproval(4, 0, true), NONE);
        due(loaded(EXAMPLE).setApproval(0, 3, true), NONE);
        due(new ParticipatoryBudget().setApproval(0, 0, true), NONE);
        due(x.undoCount(), 5);
        due(x.approvals(0), 0x803);
    }

    private static void setSetting() {
        promise(64);
        int[] least = {0, 0, 1, 0};
        int[] most = {1, 2, 1000, 1};
        int[] first = {0, 0, 10, 0};
        ParticipatoryBudget x = new ParticipatoryBudget();
        of("- `value`: the new value, in the range of the setting");
        for (int s = 0; s < 4; s++) {
            due(x.setSetting(s, most[s]), first[s]);
            due(x.getSetting(s), most[s]);
            due(x.setSetting(s, least[s]), most[s]);
            due(x.getSetting(s), least[s]);
        }
        of("BAD_VALUE if setting is none of these or value is out of its range.");
        for (int s = 0; s < 4; s++) {
            for (int bad : new int[] {least[s] - 1, most[s] + 1, MIN, MAX}) {
                due(x.setSetting(s, bad), BAD);
            }
            due(x.getSetting(s), least[s]);
        }
        for (int bad : new int[] {-1, 4, MIN, MAX}) {
            due(x.setSetting(bad, 0), BAD);
            due(x.setSetting(bad, 1), BAD);
        }
        due(x.undoCount(), 8);
    }

    private static void undo() {
        promise(65);
        of("Undoes the latest change that is kept.");
        ParticipatoryBudget x = loaded(EXAMPLE);
        x.setCost(0, 1);
        x.setCost(1, 2);
        x.setCost(0, 3);
        x.setCost(0, 0);
        x.undo();
        due(x.costOf(0), 1);
        due(x.costOf(1), 2);
        x.undo();
        due(x.costOf(0), 1);
        due(x.costOf(1), 60);
        // a change behind an undo is the latest one then
        x.setBudget(0, 9);
        x.undo();
        due(x.budgetOf(0), 100);
        due(x.costOf(0), 1);
        of("Returns the number of changes that can still be undone;");
        for (int i = 2; i <= 12; i++) {
            x.setCost(0, i);
        }
        for (int i = 9; i >= 0; i--) {
            due(x.undo(), i);
            due(x.undoCount(), i);
        }
        of("NOT_FOUND if there is none to undo.");
        due(x.undo(), NONE);
        due(x.undo(), NONE);
        due(x.costOf(0), 2);
        due(x.undoCount(), 0);
        due(new ParticipatoryBudget().undo(), NONE);
        due(loaded(EXAMPLE).undo(), NONE);
    }
}
