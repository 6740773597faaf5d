import java.lang.reflect.Field;
import java.lang.reflect.Member;
import java.lang.reflect.Method;
import java.lang.reflect.Modifier;
import java.util.ArrayList;
import java.util.Arrays;
import java.util.List;
import java.util.Map;
import java.util.Set;
import java.util.TreeMap;
import java.util.TreeSet;
import java.util.stream.Collectors;

/** "The public face" of the document, line by line, and that nothing else of the class can be seen from outside. */
public final class FaceTest {
    private static final Map<String, Integer> CONSTANTS = Map.of("NONE", -1, "FULL", -2, "BAD_TEXT", -3);
    private static final String METHODS = """
            int feed(int, int, int, int, int)
            int load(int) throws IllegalArgumentException
            int errorKind()
            int errorPosition()
            int bends()
            int legs()
            int leg(int) throws IndexOutOfBoundsException
            boolean isUp(int) throws IndexOutOfBoundsException
            double deduction()
            double flatLength()
            double linePlace(int) throws IndexOutOfBoundsException
            double ratio()
            double springBack()
            double springBackFor(double) throws IllegalArgumentException
            int swingAngle()
            int tool(int, int) throws IllegalArgumentException
            int finishedWidth()
            int finishedHeight()
            boolean isFinishedCrossed()
            int finishedCorner(int, int) throws IndexOutOfBoundsException, IllegalArgumentException
            boolean isSymmetric()
            int longestLeg()
            int made()
            int steps()
            int step(int, int) throws IndexOutOfBoundsException, IllegalArgumentException
            int costSoFar()
            int reason(int, int) throws IndexOutOfBoundsException, IllegalArgumentException
            int gauge(int, int) throws IndexOutOfBoundsException, IllegalArgumentException
            int corner(int, int, int, int) throws IndexOutOfBoundsException, IllegalArgumentException
            int top(int, int) throws IndexOutOfBoundsException, IllegalArgumentException
            int hitting(int, int) throws IndexOutOfBoundsException, IllegalArgumentException
            int refused(int) throws IllegalArgumentException
            int possible()
            int stuck()
            int costOf(int, int) throws IndexOutOfBoundsException, IllegalArgumentException
            long orders()
            int leastCost()
            int plannedSteps()
            int planned(int) throws IndexOutOfBoundsException
            int greatestCost()
            long ordersWith(int, int) throws IndexOutOfBoundsException, IllegalArgumentException
            int lastSteps()
            int mostBends()
            int greatestBeam()
            int costIfTurned(int) throws IndexOutOfBoundsException, IllegalStateException
            int fold(int, int) throws IndexOutOfBoundsException, IllegalArgumentException, IllegalStateException
            int foldNext() throws IllegalStateException
            int unfold()
            int setLeg(int, int) throws IndexOutOfBoundsException, IllegalArgumentException, IllegalStateException
            boolean setDirection(int, boolean) throws IndexOutOfBoundsException, IllegalStateException
            int setTool(int, int, int) throws IllegalArgumentException
            int setSheet(int, int, int) throws IllegalArgumentException
            int setCost(int, int, int) throws IllegalArgumentException
            int undo()
            int write()
            char written(int) throws IndexOutOfBoundsException
            """;

    public static void main(String[] args) throws ReflectiveOperationException {
        theClassAndItsConstructor();
        theConstants();
        theMethods();
        nothingElseCanBeSeen();
        theClassesInside();
        staticFieldsAreFinal();
        Check.end();
    }

    private static void theClassAndItsConstructor() {
        Class<?> face = SheetFolder.class;
        Check.sameText("class", Modifier.toString(face.getModifiers()), "public final");
        Check.sameText("package", face.getPackageName(), "");
        Check.same("constructors", face.getDeclaredConstructors().length, 1);
        Check.sameText("constructor", face.getDeclaredConstructors()[0].toString(), "public SheetFolder()");
        Check.sameText("superclass", face.getSuperclass().getName(), "java.lang.Object");
        Check.same("interfaces", face.getInterfaces().length, 0);
    }

    private static void theConstants() throws ReflectiveOperationException {
        for (Map.Entry<String, Integer> constant : CONSTANTS.entrySet()) {
            Field field = SheetFolder.class.getDeclaredField(constant.getKey());
            Check.sameText(constant.getKey(), field.toString(), "public static final int SheetFolder." + constant.getKey());
            Check.same(constant.getKey(), field.getInt(null), constant.getValue());
        }
    }

    private static String signature(Method method) {
        String text = method.getReturnType().getSimpleName() + " " + method.getName();
        text += "(" + names(method.getParameterTypes()) + ")";
        String thrown = names(method.getExceptionTypes());
        return thrown.isEmpty() ? text : text + " throws " + thrown;
    }

    private static String names(Class<?>[] classes) {
        return Arrays.stream(classes).map(Class::getSimpleName).collect(Collectors.joining(", "));
    }

    private static void theMethods() {
        Map<String, String> modifiers = new TreeMap<>();
        for (Method method : SheetFolder.class.getDeclaredMethods()) {
            if (!Modifier.isPrivate(method.getModifiers())) {
                modifiers.put(signature(method), Modifier.toString(method.getModifiers()));
            }
        }
        List<String> due = METHODS.lines().toList();
        Check.same("the document's methods", due.size(), 56);
        for (String signature : due) {
            Check.sameText(signature, String.valueOf(modifiers.remove(signature)), "public");
        }
        Check.sameText("methods that the document does not have", modifiers.keySet().toString(), "[]");
    }

    private static void nothingElseCanBeSeen() {
        Set<String> seen = new TreeSet<>();
        for (Field field : SheetFolder.class.getDeclaredFields()) {
            if (!Modifier.isPrivate(field.getModifiers())) {
                seen.add(field.getName());
            }
        }
        Check.sameText("fields seen", seen.toString(), new TreeSet<>(CONSTANTS.keySet()).toString());
        Set<String> names = METHODS.lines().map(line -> line.replaceAll("^\\w+ (\\w+).*", "$1")).collect(Collectors.toSet());
        for (Class<?> inside : allClasses()) {
            for (Method method : inside.getDeclaredMethods()) {
                boolean isOfFace = inside == SheetFolder.class && Modifier.isPublic(method.getModifiers());
                Check.same("a public name is used again: " + method, !isOfFace && names.contains(method.getName()), false);
            }
        }
    }

    private static List<Class<?>> allClasses() {
        List<Class<?>> all = new ArrayList<>(List.of(SheetFolder.class.getDeclaredClasses()));
        all.add(SheetFolder.class);
        return all;
    }

    private static void theClassesInside() {
        for (Class<?> inside : SheetFolder.class.getDeclaredClasses()) {
            int modifiers = inside.getModifiers();
            Check.same("static: " + inside, Modifier.isStatic(modifiers), true);
            Check.same("hidden: " + inside, Modifier.isPublic(modifiers) || Modifier.isProtected(modifiers), false);
            Check.same("no class deeper inside: " + inside, inside.getDeclaredClasses().length, 0);
        }
    }

    private static void staticFieldsAreFinal() {
        for (Class<?> inside : allClasses()) {
            for (Field field : inside.getDeclaredFields()) {
                Check.same("static and not final: " + field, isStaticAlone(field), false);
            }
        }
    }

    private static boolean isStaticAlone(Member field) {
        return Modifier.isStatic(field.getModifiers()) && !Modifier.isFinal(field.getModifiers());
    }
}
