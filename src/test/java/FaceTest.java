import java.lang.reflect.Constructor;
import java.lang.reflect.Field;
import java.lang.reflect.Method;
import java.lang.reflect.Modifier;
import java.util.Arrays;
import java.util.Set;
import java.util.TreeSet;

/** The public face, as the document writes it, and nothing beside it. */
final class FaceTest {
    private static final String INDEX = "IndexOutOfBoundsException";
    private static final String ARGUMENT = "IllegalArgumentException";
    private static final String STATE = "IllegalStateException";

    private FaceTest() {
    }

    static void run() {
        constants();
        methods();
        nothingElse();
    }

    private static void constants() {
        Check.due("NONE", BudgetBook.NONE, -1);
        Check.due("HEADS", BudgetBook.HEADS, 0);
        Check.due("PRICE", BudgetBook.PRICE, 1);
        Check.due("COSTS", BudgetBook.COSTS, 2);
        Check.due("PAY", BudgetBook.PAY, 3);
        Check.due("BY_FORMER", BudgetBook.BY_FORMER, 0);
        Check.due("EVENLY", BudgetBook.EVENLY, 1);
    }

    private static void methods() {
        Set<String> due = new TreeSet<>();
        due.add(row("int addPlace", 1, INDEX, STATE));
        due.add(row("int places", 0));
        due.add(row("int leaves", 1, INDEX));
        due.add(row("int set", 5, INDEX, ARGUMENT, STATE));
        due.add("boolean hold [int, int, boolean] " + Arrays.asList(INDEX, STATE));
        due.add(row("int setSeason", 2, INDEX, ARGUMENT));
        due.add(row("int spread", 5, INDEX, ARGUMENT, STATE));
        due.add(row("int spreadYear", 3, INDEX, ARGUMENT, STATE));
        due.add(row("int copy", 2, INDEX, ARGUMENT, STATE));
        due.add(row("int handIn", 2, INDEX));
        due.add(row("int takeBack", 2, INDEX));
        due.add(row("int see", 4, INDEX, ARGUMENT, STATE));
        due.add(row("int closeMonth", 0, STATE));
        due.add(row("int amount", 4, INDEX));
        due.add(row("int outlook", 4, INDEX));
        due.add(row("int year", 3, INDEX));
        due.add(row("int yearByLeaves", 3, INDEX));
        due.add(row("int filled", 0));
        due.add(row("int gap", 4, INDEX, ARGUMENT));

        Set<String> found = new TreeSet<>();
        for (Method method : BudgetBook.class.getDeclaredMethods()) {
            if (Modifier.isPublic(method.getModifiers())) {
                found.add(method.getReturnType() + " " + method.getName() + " "
                        + names(method.getParameterTypes()) + " " + names(method.getExceptionTypes()));
            }
        }
        Check.due("public methods", found, due);
    }

    private static void nothingElse() {
        int type = BudgetBook.class.getModifiers();
        Check.due("class is public and final", Modifier.isPublic(type) && Modifier.isFinal(type), true);
        Constructor<?>[] constructors = BudgetBook.class.getDeclaredConstructors();
        Check.due("constructors", constructors.length, 1);
        Check.due("the constructor is public", Modifier.isPublic(constructors[0].getModifiers()), true);
        Check.due("the constructor's parameters", constructors[0].getParameterCount(), 0);
        Set<String> publicNames = new TreeSet<>();
        for (Method method : BudgetBook.class.getDeclaredMethods()) {
            if (Modifier.isPublic(method.getModifiers())) {
                publicNames.add(method.getName());
            }
        }
        for (Method method : BudgetBook.class.getDeclaredMethods()) {
            int modifiers = method.getModifiers();
            Check.due(method.getName() + " is public or private",
                    Modifier.isPublic(modifiers) || Modifier.isPrivate(modifiers), true);
            Check.due(method.getName() + " is private and named as a public one",
                    Modifier.isPrivate(modifiers) && publicNames.contains(method.getName()), false);
        }
        Set<String> publicFields = new TreeSet<>();
        for (Field field : BudgetBook.class.getDeclaredFields()) {
            int modifiers = field.getModifiers();
            Check.due(field.getName() + " is public or private",
                    Modifier.isPublic(modifiers) || Modifier.isPrivate(modifiers), true);
            Check.due(field.getName() + " is final if it is static",
                    Modifier.isFinal(modifiers) || !Modifier.isStatic(modifiers), true);
            if (Modifier.isPublic(modifiers)) {
                publicFields.add(field.getName());
            }
        }
        Check.due("public fields", publicFields, new TreeSet<>(Arrays.asList(
                "NONE", "HEADS", "PRICE", "COSTS", "PAY", "BY_FORMER", "EVENLY")));
    }

    private static String row(String start, int ints, String... exceptions) {
        String[] parameters = new String[ints];
        Arrays.fill(parameters, "int");
        return start + " " + Arrays.asList(parameters) + " " + Arrays.asList(exceptions);
    }

    private static String names(Class<?>[] types) {
        String[] names = new String[types.length];
        for (int i = 0; i < types.length; i++) {
            names[i] = types[i].getSimpleName();
        }
        return Arrays.asList(names).toString();
    }
}
