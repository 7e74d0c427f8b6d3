import java.io.IOException;
import java.lang.reflect.Constructor;
import java.lang.reflect.Field;
import java.lang.reflect.Member;
import java.lang.reflect.Method;
import java.lang.reflect.Modifier;
import java.nio.file.Files;
import java.nio.file.Path;
import java.util.Arrays;
import java.util.List;
import java.util.Set;
import java.util.TreeSet;
import java.util.regex.Matcher;
import java.util.regex.Pattern;
import java.util.stream.Collectors;

/** The public face of the document and nothing beside it, and what a look at the source tells of the rules of LANGUAGE.md. */
public final class FaceTest {
    private static final String METHODS = """
            public int feed(int, int, int, int, int)
            public int load(int)
            public int errorPosition()
            public int districtCount()
            public int projectCount()
            public int voterCount()
            public int undoCount()
            public int districtNamed(int)
            public int projectNamed(int)
            public int budgetOf(int) throws IndexOutOfBoundsException
            public int costOf(int) throws IndexOutOfBoundsException
            public int districtsOf(int) throws IndexOutOfBoundsException
            public int memberships(int) throws IndexOutOfBoundsException
            public int approvals(int) throws IndexOutOfBoundsException
            public int weightOf(int) throws IndexOutOfBoundsException
            public int getSetting(int)
            public int supporters(int) throws IndexOutOfBoundsException
            public int votesFor(int) throws IndexOutOfBoundsException
            public int purse(int, int) throws IndexOutOfBoundsException
            public int firstPrice(int) throws IndexOutOfBoundsException
            public int funded(int)
            public int fundedAt(int, int)
            public int priceOf(int) throws IndexOutOfBoundsException
            public int paidBy(int, int) throws IndexOutOfBoundsException
            public int paidFrom(int, int, int) throws IndexOutOfBoundsException
            public int leftOf(int, int) throws IndexOutOfBoundsException
            public int purseLeft(int, int) throws IndexOutOfBoundsException
            public int meansLeft(int) throws IndexOutOfBoundsException
            public int raises()
            public int completed()
            public int totalCost(int)
            public long welfare(int)
            public int satisfaction(int, int) throws IndexOutOfBoundsException
            public int worstOff(int)
            public int leftOut(int)
            public int claimOf(int, int) throws IndexOutOfBoundsException
            public int unjust(int)
            public int changedWithout(int) throws IndexOutOfBoundsException
            public int greedyLimit(int) throws IndexOutOfBoundsException
            public boolean canBePaid(int)
            public int common(int, int)
            public int spread(int)
            public long loss(int)
            public long bestWithout(int) throws IndexOutOfBoundsException
            public int endowment(int) throws IndexOutOfBoundsException
            public int spentBy(int) throws IndexOutOfBoundsException
            public int payers(int) throws IndexOutOfBoundsException
            public int roundOf(int) throws IndexOutOfBoundsException
            public int commonSupport(int, int) throws IndexOutOfBoundsException
            public int priceIn(int, int) throws IndexOutOfBoundsException
            public int fundedWithBudget(int, int) throws IndexOutOfBoundsException
            public int fundedWithCost(int, int) throws IndexOutOfBoundsException
            public int fundedWithout(int) throws IndexOutOfBoundsException
            public int cheapestSet(int)
            public int districtWelfare(int, int) throws IndexOutOfBoundsException
            public int rankOf(int, int) throws IndexOutOfBoundsException
            public int richest()
            public int setBudget(int, int)
            public int setCost(int, int)
            public int setWeight(int, int)
            public int setMember(int, int, boolean)
            public int setApproval(int, int, boolean)
            public int setSetting(int, int)
            public int undo()
            """;
    private static final String CONSTANTS = "EQUAL=0 GREEDY=1 BEST=2 WORTH=0 COMPLETION=1 STEP=2 ORDER=3 NOT_FOUND=-1 BAD_VALUE=-2 FULL=-3 "
            + "SYNTAX_ERROR=-11 RANGE_ERROR=-12 NAME_ERROR=-13 DUPLICATE_ERROR=-14 COUNT_ERROR=-15";
    private static int wrong = 0;

    private static void due(String what, Object got, Object want) {
        if (!got.equals(want)) {
            wrong++;
            System.out.println(what + ": " + got + ", due is " + want);
        }
    }

    public static void main(String[] args) throws Exception {
        methods();
        constantsAndTheRest();
        classes();
        source();
        System.out.println(wrong == 0 ? "the face and the form are as due" : wrong + " faults of face or form");
        if (wrong != 0) {
            System.exit(1);
        }
    }

    private static void methods() {
        Set<String> found = new TreeSet<>();
        for (Method m : ParticipatoryBudget.class.getDeclaredMethods()) {
            if (!Modifier.isPrivate(m.getModifiers())) {
                String parameters = Arrays.stream(m.getParameterTypes()).map(Class::getSimpleName).collect(Collectors.joining(", ", "(", ")"));
                String exceptions = Arrays.stream(m.getExceptionTypes()).map(Class::getSimpleName).collect(Collectors.joining(", "));
                found.add(Modifier.toString(m.getModifiers()) + " " + m.getReturnType().getSimpleName() + " " + m.getName() + parameters
                        + (exceptions.isEmpty() ? "" : " throws " + exceptions));
            }
        }
        Set<String> wanted = new TreeSet<>(List.of(METHODS.strip().split("\n")));
        due("methods", found, wanted);
        Set<String> faceNames = wanted.stream().map(l -> l.replaceAll("\\(.*", "").replaceAll(".* ", "")).collect(Collectors.toSet());
        for (Method m : ParticipatoryBudget.class.getDeclaredMethods()) {
            if (Modifier.isPrivate(m.getModifiers())) {
                due("rule 1: " + m.getName() + " is private and of the face", faceNames.contains(m.getName()), false);
            }
        }
    }

    private static void constantsAndTheRest() throws Exception {
        Set<String> found = new TreeSet<>();
        for (Field f : ParticipatoryBudget.class.getDeclaredFields()) {
            if (!Modifier.isPrivate(f.getModifiers())) {
                due(f.getName(), Modifier.toString(f.getModifiers()) + " " + f.getType(), "public static final int");
                found.add(f.getName() + "=" + f.getInt(null));
            }
        }
        due("constants", found, new TreeSet<>(List.of(CONSTANTS.split(" "))));
        Constructor<?>[] constructors = ParticipatoryBudget.class.getDeclaredConstructors();
        due("constructors", constructors.length, 1);
        due("the constructor", Modifier.toString(constructors[0].getModifiers()) + constructors[0].getParameterCount(), "public0");
        due("the class", Modifier.toString(ParticipatoryBudget.class.getModifiers()), "public final");
    }

    private static void classes() {
        Class<?>[] inside = ParticipatoryBudget.class.getDeclaredClasses();
        due("rule 11: at most 12 classes", inside.length < 12, true);
        for (Class<?> c : inside) {
            int modifiers = c.getModifiers();
            due("rule 1: " + c + " is static, not public", Modifier.isStatic(modifiers) && !Modifier.isPublic(modifiers), true);
            fields(c);
        }
        fields(ParticipatoryBudget.class);
    }

    private static void fields(Class<?> c) {
        int own = 0;
        for (Field f : c.getDeclaredFields()) {
            boolean isStatic = Modifier.isStatic(f.getModifiers());
            own += isStatic ? 0 : 1;
            due("rule 5: " + f + " is final", !isStatic || Modifier.isFinal(f.getModifiers()), true);
        }
        due("rule 11: at most 20 fields in " + c, own <= 20, true);
        for (Method m : c.getDeclaredMethods()) {
            due("rule 11: at most 7 parameters of " + m, m.getParameterCount() <= 7, true);
            due("rule 2: no lambda " + m, ((Member) m).isSynthetic(), false);
        }
    }

    private static void source() throws IOException {
        String text = Files.readString(Path.of("src/main/java/ParticipatoryBudget.java"));
        due("imports", text.lines().filter(l -> l.startsWith("import")).collect(Collectors.toList()), List.of("import java.util.Arrays;"));
        String code = text.replaceAll("(?s)/\\*.*?\\*/", "").replaceAll("//.*", "");
        for (String word : "catch try finally assert synchronized throws? System\\.(?!arraycopy) float double Object Math\\.\\w+Exact".split(" ")) {
            Matcher m = Pattern.compile("\\b" + word).matcher(code.replace("throws IndexOutOfBoundsException", "").replace("throw new IndexOutOfBoundsException();", ""));
            due("rules 3, 4 and 6: " + word, m.find(), false);
        }
        due("rule 2: lambdas and method references", code.contains("->") || code.contains("::"), false);
        due("rule 12: all is made by fields", made(code), List.of());
        due("rule 11: methods of more than 60 lines", longMethods(text), List.of());
    }

    /** A call makes no object: new stands behind a field's name alone, or behind throw. */
    private static List<String> made(String code) {
        return code.lines().map(String::strip)
                .filter(l -> l.contains("new ") && !l.equals("throw new IndexOutOfBoundsException();"))
                .filter(l -> !l.matches("(private )?(final )?\\w+(\\[\\])* \\w+ = new [^;]*;"))
                .collect(Collectors.toList());
    }

    private static List<String> longMethods(String text) {
        List<String> lines = text.lines().collect(Collectors.toList());
        return lines.stream().filter(l -> l.matches(" {4}( {4})?\\w.*\\) .*\\{")).filter(l -> {
            String close = " ".repeat(l.indexOf(l.strip())) + "}";
            int from = lines.indexOf(l);
            return lines.subList(from, lines.size()).indexOf(close) > 60;
        }).collect(Collectors.toList());
    }
}
