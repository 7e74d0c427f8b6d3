import java.lang.reflect.InvocationTargetException;
import java.lang.reflect.Method;
import java.lang.reflect.Modifier;
import java.nio.charset.StandardCharsets;
import java.util.ArrayList;
import java.util.Arrays;
import java.util.Collections;
import java.util.Comparator;
import java.util.List;
import java.util.Random;

/** Random runs of calls, answered by the class and by the model; each call must be answered alike. */
public final class RandomRunsTest {
    private static final int RUNS = 400;
    /** What later calls of an object answer is free. */
    private static final int MOST_CALLS = 512;
    private final Random random;
    private final List<Method> methods = new ArrayList<>();
    private int districts, projects, voters, scale;

    private RandomRunsTest(long seed) {
        random = new Random(seed);
        for (Method m : ParticipatoryBudget.class.getDeclaredMethods()) {
            if (Modifier.isPublic(m.getModifiers())) {
                methods.add(m);
            }
        }
        methods.sort(Comparator.comparing(Method::getName));
    }

    public static void main(String[] args) throws Exception {
        int runs = args.length > 0 ? Integer.parseInt(args[0]) : RUNS;
        long first = args.length > 1 ? Long.parseLong(args[1]) : 1;
        for (long seed = first; seed < first + runs; seed++) {
            new RandomRunsTest(seed).run(seed);
        }
        System.out.println(runs + " random runs are as the model has them");
    }

    private int upTo(int most) {
        return random.nextInt(most + 1);
    }

    private void run(long seed) throws Exception {
        ParticipatoryBudget tested = new ParticipatoryBudget();
        Model model = new Model();
        List<String> log = new ArrayList<>();
        while (log.size() < MOST_CALLS) {
            String text = upTo(3) == 0 ? spoil(text()) : text();
            List<Object[]> feeds = feeds(text);
            if (log.size() + feeds.size() + 2 > MOST_CALLS) {
                return;
            }
            for (Object[] five : feeds) {
                compare(seed, log, tested, model, "feed", five);
            }
            int length = upTo(30) == 0 ? text.length() + upTo(60) - 30 : text.length();
            compare(seed, log, tested, model, "load", length);
            compare(seed, log, tested, model, "errorPosition");
            districts = model.districtCount();
            projects = model.projectCount();
            voters = model.voterCount();
            int more = 30 + upTo(60);
            for (int i = 0; i < more && log.size() < MOST_CALLS; i++) {
                Method m = methods.get(random.nextInt(methods.size()));
                if (m.getName().equals("feed") || m.getName().equals("load") && upTo(9) != 0) {
                    continue;
                }
                if (upTo(2) == 0) {
                    m = changer();
                }
                compare(seed, log, tested, model, m.getName(), arguments(m));
            }
        }
    }

    private Method changer() {
        while (true) {
            Method m = methods.get(random.nextInt(methods.size()));
            if (m.getName().startsWith("set") || m.getName().equals("undo") && upTo(1) == 0) {
                return m;
            }
        }
    }

    private Object[] arguments(Method m) {
        int n = m.getParameterCount();
        Object[] all = new Object[n];
        for (int i = 0; i < n; i++) {
            all[i] = argument(m.getName(), i);
        }
        return all;
    }

    private int index(int count) {
        return upTo(25) == 0 ? random.nextBoolean() ? -1 : count : count == 0 ? 0 : random.nextInt(count);
    }

    private int rule() {
        return upTo(20) == 0 ? random.nextBoolean() ? -1 : 3 : random.nextInt(3);
    }

    private int money() {
        return upTo(20) == 0 ? new int[] {-1, 0, 1, 100000, 100001}[upTo(4)] : upTo(scale);
    }

    private int letters(String name) {
        int letters = 0;
        for (int i = 0; i < 6; i++) {
            letters = letters << 5 | (i < name.length() ? name.charAt(i) - 'a' + 1 : 0);
        }
        return upTo(4) == 0 ? letters ^ 1 << upTo(31) : letters;
    }

    private Object argument(String name, int i) {
        switch (name) {
            case "districtNamed":
            case "projectNamed":
                return upTo(3) == 0 ? random.nextInt() : letters(name('a', upTo(16)));
            case "budgetOf":
                return index(districts);
            case "costOf": case "districtsOf": case "supporters": case "votesFor": case "firstPrice": case "priceOf":
            case "meansLeft": case "greedyLimit": case "bestWithout": case "payers": case "roundOf": case "commonSupport":
            case "fundedWithout":
                return index(projects);
            case "memberships": case "approvals": case "weightOf": case "changedWithout": case "endowment": case "spentBy":
                return index(voters);
            case "getSetting":
                return upTo(5) - 1;
            case "purse": case "purseLeft":
                return i == 0 ? index(voters) : index(districts);
            case "fundedAt":
                return i == 0 ? rule() : upTo(projects + 1) - 1;
            case "paidBy":
                return i == 0 ? index(projects) : index(voters);
            case "paidFrom":
                return i == 0 ? rule() : i == 1 ? index(projects) : index(districts);
            case "leftOf": case "districtWelfare":
                return i == 0 ? rule() : index(districts);
            case "satisfaction": case "rankOf":
                return i == 0 ? rule() : index(voters);
            case "claimOf":
                return i == 0 ? rule() : index(projects);
            case "canBePaid":
                return upTo(9) == 0 ? random.nextInt() : random.nextInt() & random.nextInt() & (1 << projects) - 1;
            case "priceIn":
                return i == 0 ? index(projects) : upTo(projects + 2) - 1;
            case "fundedWithBudget": case "setBudget":
                return i == 0 ? index(districts) : upTo(2) == 0 ? 4 * money() : money();
            case "fundedWithCost": case "setCost":
                return i == 0 ? index(projects) : money();
            case "cheapestSet":
                return upTo(9) == 0 ? -upTo(2) : upTo(1) == 0 ? upTo(60) : upTo(60 * scale);
            case "setWeight":
                return i == 0 ? index(voters) : upTo(10);
            case "setMember":
                return i == 0 ? index(voters) : i == 1 ? index(districts) : (Object) random.nextBoolean();
            case "setApproval":
                return i == 0 ? index(voters) : i == 1 ? index(projects) : (Object) random.nextBoolean();
            case "setSetting":
                return i == 0 ? upTo(5) - 1 : upTo(1) == 0 ? upTo(2) : upTo(9) == 0 ? 999 + upTo(2) : upTo(40) - 1;
            case "load":
                return upTo(20) - 1;
            default:
                return rule();
        }
    }

    private String text() {
        districts = upTo(9) == 0 ? upTo(5) : 1 + upTo(3);
        projects = districts == 0 ? 0 : upTo(3) == 0 ? upTo(13) : 3 + upTo(4);
        voters = districts == 0 ? 0 : upTo(3) == 0 ? upTo(25) : 2 + upTo(6);
        scale = new int[] {10, 60, 300, 3000, 100000}[upTo(4)];
        int dearest = 1 + scale / (1 + upTo(5));
        int rich = 1 + upTo(5);
        boolean oneDistrictEach = upTo(2) == 0;
        boolean oneProjectEach = upTo(3) == 0;
        StringBuilder s = new StringBuilder();
        for (int d = 0; d < districts; d++) {
            s.append("district ").append(name('a', d)).append(' ').append(upTo(6) == 0 ? upTo(2) : upTo(Math.min(scale * rich, 100000))).append(';');
        }
        for (int p = 0; p < projects; p++) {
            s.append("project ").append(name('e', p)).append(' ').append(1 + upTo(dearest)).append(some('a', districts, oneDistrictEach)).append(';');
        }
        for (int v = 0; v < voters; v++) {
            s.append("voter ").append(upTo(2) == 0 ? 1 : 1 + upTo(8)).append(" in").append(some('a', districts, oneDistrictEach));
            if (projects > 0 && upTo(8) != 0) {
                s.append(" for").append(some('e', projects, oneProjectEach));
            }
            s.append(";\n");
        }
        settings(s);
        if (s.length() > 1195) {
            s.setLength(s.lastIndexOf(";", 1195) + 1);
        }
        return s.toString();
    }

    private static String name(char first, int index) {
        return (char) (first + index) + "zyxwv".substring(0, (first + index) % 6);
    }

    private void settings(StringBuilder s) {
        if (upTo(1) == 0) {
            s.append("set worth ").append(upTo(1)).append(';');
        }
        if (upTo(3) != 0) {
            s.append("set completion ").append(upTo(2)).append(';');
        }
        if (upTo(1) == 0) {
            s.append("set step ").append(1 + upTo(scale < 60 ? 3 : scale < 100000 ? 20 : 999)).append(';');
        }
        if (upTo(1) == 0) {
            s.append("set order ").append(upTo(1)).append(';');
        }
    }

    private String some(char first, int count, boolean justOne) {
        List<Integer> all = new ArrayList<>();
        for (int i = 0; i < count; i++) {
            all.add(i);
        }
        Collections.shuffle(all, random);
        StringBuilder s = new StringBuilder();
        int take = justOne ? 1 : 1 + Math.min(upTo(count - 1), upTo(count - 1));
        for (int i = 0; i < take; i++) {
            s.append(' ').append(name(first, all.get(i)));
        }
        return s.toString();
    }

    private static final String[] PIECES = {"district", "project", "voter", "in", "for", "set", "worth", "completion", "step",
        "order", "a", "b", "e", "f", "zz", "abcdef", "abcdefg", ";", ";", "0", "1", "9", "10", "100000", "100001", "007",
        "99999999999999999999", "%", "A", "\u00e9", "\t", "\n", "{", "`", "/", ":"};

    /** Takes a text apart into tokens, and makes a few of them wrong, double, missing or changed in place. */
    private String spoil(String text) {
        List<String> tokens = new ArrayList<>(Arrays.asList(text.replace(";", " ; ").trim().split("[ \n]+")));
        int times = 1 + upTo(2);
        for (int i = 0; i < times; i++) {
            int at = random.nextInt(tokens.size());
            String other = upTo(1) == 0 ? tokens.get(random.nextInt(tokens.size())) : PIECES[random.nextInt(PIECES.length)];
            switch (upTo(5)) {
                case 0 -> tokens.add(at, other);
                case 1 -> tokens.add(at, tokens.get(at));
                case 2 -> tokens.replaceAll(t -> t.matches("[0-9]+") && upTo(20) == 0 ? "" + (upTo(1) == 0 ? 0 : 10) : t);
                case 3 -> tokens.set(at, tokens.get(at) + other);
                case 4 -> tokens.subList(at, Math.min(tokens.size(), at + upTo(3))).clear();
                default -> tokens.set(at, other);
            }
            if (tokens.isEmpty()) {
                tokens.add(other);
            }
        }
        String glue = upTo(3) == 0 ? "\n" : upTo(3) == 0 ? "  " : " ";
        String spoiled = String.join(glue, tokens) + " ".repeat(upTo(2));
        return spoiled.substring(0, Math.min(spoiled.length(), 1200));
    }

    static List<Object[]> feeds(String text) {
        byte[] bytes = Arrays.copyOf(text.getBytes(StandardCharsets.ISO_8859_1), (text.length() + 19) / 20 * 20);
        List<Object[]> list = new ArrayList<>();
        for (int at = 0; at < bytes.length; at += 20) {
            Object[] words = new Object[5];
            for (int i = 0; i < 5; i++) {
                words[i] = java.nio.ByteBuffer.wrap(bytes).getInt(at + 4 * i);
            }
            list.add(words);
        }
        return list;
    }

    private static void compare(long seed, List<String> log, Object tested, Object model, String name, Object... arguments) throws Exception {
        Object is = answer(tested, name, arguments);
        Object due = answer(model, name, arguments);
        log.add(name + Arrays.toString(arguments) + " = " + due);
        if (!is.equals(due)) {
            for (String line : log) {
                System.out.println(line);
            }
            System.out.println("seed " + seed + ": the last call was answered " + is);
            System.exit(1);
        }
    }

    private static Object answer(Object object, String name, Object... arguments) throws Exception {
        for (Method m : object.getClass().getDeclaredMethods()) {
            if (m.getName().equals(name) && Modifier.isPublic(m.getModifiers())) {
                try {
                    return m.invoke(object, arguments);
                } catch (InvocationTargetException e) {
                    if (e.getCause().getClass() == IndexOutOfBoundsException.class) {
                        return "throws";
                    }
                    throw e;
                }
            }
        }
        throw new IllegalStateException("no method " + name);
    }
}
