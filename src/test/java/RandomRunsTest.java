import java.lang.reflect.InvocationTargetException;
import java.lang.reflect.Method;
import java.lang.reflect.Modifier;
import java.nio.charset.StandardCharsets;
import java.util.ArrayList;
import java.util.Arrays;
import java.util.Comparator;
import java.util.List;
import java.util.Random;

/** Random runs of calls, answered by the class and by the model; each call must be answered alike. */
public final class RandomRunsTest {
    private static final int RUNS = 400;
    private final Random random;
    private final List<Method> methods = new ArrayList<>();
    private int districts, projects, voters, scale;

    private RandomRunsTest(long seed) {
        random = new Random(seed);
        for (Method m : ParticipatoryBudget.class.getDeclaredMethods()) {
            if (Modifier.isPublic(m.getModifiers())) {
                methods.add(m);
            }
        }
        methods.sort(Comparator.comparing(Method::getName));
    }

    public static void main(String[] args) throws Exception {
        int runs = args.length > 0 ? Integer.parseInt(args[0]) : RUNS;
        long first = args.length > 1 ? Long.parseLong(args[1]) : 1;
        for (long seed = first; seed < first + runs; seed++) {
            new RandomRunsTest(seed).run(seed);
        }
        System.out.println(runs + " random runs are as the model has them");
    }

    private int upTo(int most) {
        return random.nextInt(most + 1);
    }

    private void run(long seed) throws Exception {
        ParticipatoryBudget tested = new ParticipatoryBudget();
        Model model = new Model();
        List<String> log = new ArrayList<>();
        int calls = 0;
        while (calls < 512) {
            String text = upTo(3) == 0 ? spoil(text()) : text();
            for (Object[] four : feeds(text)) {
                compare(seed, log, tested, model, "feed", four);
                calls++;
            }
            int length = upTo(30) == 0 ? text.length() + upTo(60) - 30 : text.length();
            compare(seed, log, tested, model, "load", length);
            compare(seed, log, tested, model, "errorPosition");
            calls += 2;
            int more = 30 + upTo(60);
            for (int i = 0; i < more && calls < 512; i++, calls++) {
                Method m = methods.get(random.nextInt(methods.size()));
                if (m.getName().equals("feed") || m.getName().equals("load") && upTo(9) != 0) {
                    continue;
                }
                if (upTo(2) == 0) {
                    m = changer();
                }
                compare(seed, log, tested, model, m.getName(), arguments(m));
            }
        }
    }

    private Method changer() {
        while (true) {
            Method m = methods.get(random.nextInt(methods.size()));
            if (m.getName().startsWith("set") || m.getName().equals("undo") && upTo(1) == 0) {
                return m;
            }
        }
    }

    private Object[] arguments(Method m) {
        int n = m.getParameterCount();
        Object[] all = new Object[n];
        for (int i = 0; i < n; i++) {
            all[i] = argument(m.getName(), i);
        }
        return all;
    }

    private int index(int count) {
        return upTo(25) == 0 ? random.nextBoolean() ? -1 : count : count == 0 ? 0 : random.nextInt(count);
    }

    private int rule() {
        return upTo(20) == 0 ? random.nextBoolean() ? -1 : 3 : random.nextInt(3);
    }

    private int money() {
        return upTo(20) == 0 ? new int[] {-1, 0, 1, 100000, 100001}[upTo(4)] : upTo(scale);
    }

    private Object argument(String name, int i) {
        switch (name) {
            case "districtNamed":
            case "projectNamed":
                return upTo(3) == 0 ? random.nextInt() : (char) (upTo(16) + 1) << 25 | (upTo(4) == 0 ? 1 << 20 : 0);
            case "budgetOf":
                return index(districts);
            case "costOf": case "districtsOf": case "supporters": case "votesFor": case "firstPrice": case "priceOf":
            case "meansLeft": case "greedyLimit": case "bestWithout": case "payers": case "roundOf": case "commonSupport":
            case "fundedWithout":
                return index(projects);
            case "memberships": case "approvals": case "weightOf": case "changedWithout": case "endowment": case "spentBy":
                return index(voters);
            case "getSetting":
                return upTo(5) - 1;
            case "purse": case "purseLeft":
                return i == 0 ? index(voters) : index(districts);
            case "fundedAt":
                return i == 0 ? rule() : upTo(projects + 1) - 1;
            case "paidBy":
                return i == 0 ? index(projects) : index(voters);
            case "paidFrom":
                return i == 0 ? rule() : i == 1 ? index(projects) : index(districts);
            case "leftOf": case "districtWelfare":
                return i == 0 ? rule() : index(districts);
            case "satisfaction": case "rankOf":
                return i == 0 ? rule() : index(voters);
            case "claimOf":
                return i == 0 ? rule() : index(projects);
            case "canBePaid":
                return upTo(9) == 0 ? random.nextInt() : random.nextInt() & random.nextInt() & (1 << projects) - 1;
            case "priceIn":
                return i == 0 ? index(projects) : upTo(projects + 2) - 1;
            case "fundedWithBudget": case "setBudget":
                return i == 0 ? index(districts) : money();
            case "fundedWithCost": case "setCost":
                return i == 0 ? index(projects) : money();
            case "cheapestSet":
                return upTo(9) == 0 ? -upTo(2) : upTo(1) == 0 ? upTo(60) : upTo(60 * scale);
            case "setWeight":
                return i == 0 ? index(voters) : upTo(10);
            case "setMember":
                return i == 0 ? index(voters) : i == 1 ? index(districts) : (Object) random.nextBoolean();
            case "setApproval":
                return i == 0 ? index(voters) : i == 1 ? index(projects) : (Object) random.nextBoolean();
            case "setSetting":
                return i == 0 ? upTo(5) - 1 : upTo(1) == 0 ? upTo(2) : upTo(40) - 1;
            case "load":
                return upTo(20) - 1;
            default:
                return rule();
        }
    }

    private String text() {
        districts = upTo(8) == 0 ? upTo(4) : 1 + upTo(3);
        projects = districts == 0 ? 0 : upTo(3) == 0 ? upTo(12) : 3 + upTo(4);
        voters = districts == 0 ? 0 : upTo(3) == 0 ? upTo(24) : 2 + upTo(5);
        scale = new int[] {10, 60, 300, 3000}[upTo(3)];
        StringBuilder s = new StringBuilder();
        for (int d = 0; d < districts; d++) {
            s.append("district ").append((char) ('a' + d)).append(' ').append(upTo(6) == 0 ? upTo(2) : upTo(scale)).append(';');
        }
        for (int p = 0; p < projects; p++) {
            s.append("project ").append((char) ('e' + p)).append(' ').append(1 + upTo(scale)).append(some('a', districts)).append(';');
        }
        for (int v = 0; v < voters && s.length() < 1100; v++) {
            s.append("voter ").append(upTo(2) == 0 ? 1 : 1 + upTo(8)).append(" in").append(some('a', districts));
            if (projects > 0 && upTo(8) != 0) {
                s.append(" for").append(some('e', projects));
            }
            s.append(";\n");
        }
        settings(s);
        if (s.length() > 1195) {
            s.setLength(s.lastIndexOf(";", 1195) + 1);
        }
        return s.toString();
    }

    private void settings(StringBuilder s) {
        if (upTo(1) == 0) {
            s.append("set worth ").append(upTo(1)).append(';');
        }
        if (upTo(3) != 0) {
            s.append("set completion ").append(upTo(2)).append(';');
        }
        if (upTo(1) == 0) {
            s.append("set step ").append(1 + upTo(scale < 60 ? 3 : 20)).append(';');
        }
        if (upTo(1) == 0) {
            s.append("set order ").append(upTo(1)).append(';');
        }
    }

    private String some(char first, int count) {
        List<Integer> all = new ArrayList<>();
        for (int i = 0; i < count; i++) {
            all.add(i);
        }
        java.util.Collections.shuffle(all, random);
        StringBuilder s = new StringBuilder();
        int take = 1 + Math.min(upTo(count - 1), upTo(count - 1));
        for (int i = 0; i < take; i++) {
            s.append(' ').append((char) (first + all.get(i)));
        }
        return s.toString();
    }

    private static final String[] PIECES = {"district", "project", "voter", "in", "for", "set", "worth", "completion", "step",
        "order", "a", "b", "e", "f", "zz", "abcdef", "abcdefg", ";", ";", "0", "1", "9", "10", "100000", "100001", "007",
        "99999999999999999999", "%", "A", "\u00e9", "\t", "\n", "{", "`", "/", ":"};

    private String spoil(String text) {
        StringBuilder s = new StringBuilder(text);
        int times = 1 + upTo(2);
        for (int i = 0; i < times; i++) {
            int at = upTo(s.length());
            String piece = PIECES[random.nextInt(PIECES.length)];
            switch (upTo(3)) {
                case 0 -> s.insert(at, piece);
                case 1 -> s.insert(at, " " + piece + " ");
                case 2 -> {
                    int end = Math.min(s.length(), at + 1 + upTo(8));
                    s.replace(at, end, upTo(1) == 0 ? "" : piece);
                }
                default -> {
                    int space = s.indexOf(" ", at);
                    int next = space < 0 ? -1 : s.indexOf(" ", space + 1);
                    if (next > 0) {
                        s.replace(space + 1, next, piece);
                    }
                }
            }
        }
        if (s.length() > 1200) {
            s.setLength(1200);
        }
        return s.toString();
    }

    static List<Object[]> feeds(String text) {
        byte[] bytes = Arrays.copyOf(text.getBytes(StandardCharsets.ISO_8859_1), (text.length() + 19) / 20 * 20);
        List<Object[]> list = new ArrayList<>();
        for (int at = 0; at < bytes.length; at += 20) {
            Object[] words = new Object[5];
            for (int i = 0; i < 5; i++) {
                words[i] = java.nio.ByteBuffer.wrap(bytes).getInt(at + 4 * i);
            }
            list.add(words);
        }
        return list;
    }

    private static void compare(long seed, List<String> log, Object tested, Object model, String name, Object... arguments) throws Exception {
        Object is = answer(tested, name, arguments);
        Object due = answer(model, name, arguments);
        log.add(name + Arrays.toString(arguments) + " = " + due);
        if (!is.equals(due)) {
            for (String line : log) {
                System.out.println(line);
            }
            System.out.println("seed " + seed + ": the last call was answered " + is);
            System.exit(1);
        }
    }

    private static Object answer(Object object, String name, Object... arguments) throws Exception {
        for (Method m : object.getClass().getDeclaredMethods()) {
            if (m.getName().equals(name) && Modifier.isPublic(m.getModifiers())) {
                try {
                    return m.invoke(object, arguments);
                } catch (InvocationTargetException e) {
                    if (e.getCause().getClass() == IndexOutOfBoundsException.class) {
                        return "throws";
                    }
                    throw e;
                }
            }
        }
        throw new IllegalStateException("no method " + name);
    }
}
