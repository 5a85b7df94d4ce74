import java.io.IOException;
import java.lang.reflect.Array;
import java.lang.reflect.Constructor;
import java.lang.reflect.Field;
import java.lang.reflect.InvocationTargetException;
import java.lang.reflect.Member;
import java.lang.reflect.Method;
import java.lang.reflect.Modifier;
import java.nio.file.Files;
import java.nio.file.Path;
import java.util.ArrayList;
import java.util.Arrays;
import java.util.Collections;
import java.util.IdentityHashMap;
import java.util.List;
import java.util.Set;
import java.util.TreeSet;
import java.util.regex.Matcher;
import java.util.regex.Pattern;

/** The rules of LANGUAGE.md that can be seen in the source, in the compiled classes or by calls. */
public final class LanguageTest {
    private static final Path SOURCE = Path.of("src/main/java/OnlineRooms.java");
    private static final Set<String> FACE = Set.of("talk(int,int,int)", "withdraw(int)", "move(int,int)",
        "room(int,int,int)", "close(int)", "anew()", "set(int,int)", "talkOf(int,int)", "roomOf(int,int)",
        "at(int,int)", "hourOf(int,int)", "would(int,int,int,int)", "known(int,int)", "unknowing()", "share()",
        "bestRule(int)", "emptied(int)", "count(int)", "undo()", "type(int)", "clearText()", "fault(int)", "play()");
    private static final Set<String> CONSTANTS = Set.of("INVALID_ARGUMENT", "NOT_POSSIBLE", "LIMIT_REACHED",
        "NOT_FOUND");
    // What the program may call of the library; LANGUAGE.md allows more, which would be added here.
    private static final Set<String> LIBRARY = Set.of("java.lang.Object.Object()", "java.lang.Math.max(int,int)",
        "java.lang.System.arraycopy(java.lang.Object,int,java.lang.Object,int,int)", "java.lang.Math.min(int,int)",
        "java.lang.Integer.bitCount(int)", "java.lang.Long.bitCount(long)");
    // At the edges of the document's ranges and beside them, at those of shifts, and far away.
    private static final int[] EDGES = {Integer.MIN_VALUE, Integer.MIN_VALUE + 1, -64, -1, 0, 1, 3, 4, 7, 8, 9, 10, 19, 20,
        31, 32, 47, 48, 49, 63, 64, 99, 100, Integer.MAX_VALUE - 1, Integer.MAX_VALUE};
    private static final Set<Integer> ERRORS = Set.of(-1000001, -1000002, -1000003, -1000004);
    private static final int CALLS_OF_AN_OBJECT = 512;
    private static final int STATES = 5;
    private static final int CALLS_OF_A_STATE = 64;

    public static void main(String[] args) {
        Sentences.test(LanguageTest.class);
    }

    private static List<Class<?>> classes() {
        List<Class<?>> all = new ArrayList<>(List.of(OnlineRooms.class));
        all.addAll(Arrays.asList(OnlineRooms.class.getDeclaredClasses()));
        return all;
    }

    /** Fails for each match in the source, its comments left aside. */
    private static void without(Check check, String pattern) throws IOException {
        String source = Files.readString(SOURCE);
        check.holds("the program is read", source.contains("public final class OnlineRooms"));
        String code = source.replaceAll("(?s)/\\*.*?\\*/", "").replaceAll("//[^\n]*", "");
        Matcher found = Pattern.compile(pattern).matcher(code);
        while (found.find()) {
            check.holds("no " + found.group() + " in the program", false);
        }
    }

    private static String signature(Method method) {
        StringBuilder told = new StringBuilder(method.getName()).append('(');
        for (Class<?> type : method.getParameterTypes()) {
            told.append(told.charAt(told.length() - 1) == '(' ? "" : ",").append(type.getName());
        }
        return told.append(')').toString();
    }

    @Sentence(of = "Rule 1", words = "public and final, with the public constructor, methods and constants of the document "
        + "and no other public, protected or package-visible member")
    static void rule01FaceIsThatOfTheDocument(Check check) {
        int modifiers = OnlineRooms.class.getModifiers();
        check.holds("a public final class", Modifier.isPublic(modifiers) && Modifier.isFinal(modifiers));
        Set<String> methods = new TreeSet<>();
        for (Method method : OnlineRooms.class.getDeclaredMethods()) {
            if (isOfTheFace(check, method)) {
                methods.add(signature(method));
                check.holds(method + " returns an int", method.getReturnType() == int.class);
                check.holds(method + " is of the object", !Modifier.isStatic(method.getModifiers()));
                check.due("exceptions of " + method, method.getExceptionTypes().length, 0);
            }
        }
        check.holds("the methods of the document, not " + methods, methods.equals(FACE));
        Set<String> fields = new TreeSet<>();
        for (Field field : OnlineRooms.class.getDeclaredFields()) {
            if (isOfTheFace(check, field)) {
                fields.add(field.getName());
                check.holds(field + " is an int", field.getType() == int.class);
            }
        }
        check.holds("the constants of the document, not " + fields, fields.equals(CONSTANTS));
        Constructor<?>[] constructors = OnlineRooms.class.getDeclaredConstructors();
        check.due("constructors", constructors.length, 1);
        check.holds("a public one without parameters",
            isOfTheFace(check, constructors[0]) && constructors[0].getParameterCount() == 0);
    }

    private static boolean isOfTheFace(Check check, Member member) {
        boolean hidden = Modifier.isPrivate(member.getModifiers());
        check.holds(member + " is public or private", hidden || Modifier.isPublic(member.getModifiers()));
        return !hidden;
    }

    @Sentence(of = "Rule 1", words = "but for the classes inside it, which are private or package-visible and static")
    static void rule01ClassesInsideAreHiddenAndStatic(Check check) {
        for (Class<?> inner : OnlineRooms.class.getDeclaredClasses()) {
            int modifiers = inner.getModifiers();
            check.holds(inner + " is static", Modifier.isStatic(modifiers));
            check.holds(inner + " is hidden", !Modifier.isPublic(modifiers) && !Modifier.isProtected(modifiers));
        }
    }

    @Sentence(of = "Rule 1", words = "No private method bears the name of a public one.")
    static void rule01NoHiddenMethodBearsANameOfTheFace(Check check) {
        for (Class<?> one : classes()) {
            for (Method method : one.getDeclaredMethods()) {
                boolean named = FACE.stream().anyMatch(face -> face.startsWith(method.getName() + "("));
                boolean face = one == OnlineRooms.class && Modifier.isPublic(method.getModifiers());
                check.holds(method + " has a name of its own", !named || face);
            }
        }
    }

    @Sentence(of = "Rule 2", words = "no local class that captures a variable, no lambda, no method reference")
    static void rule02NoLambdaAndNoMethodReference(Check check) throws IOException {
        without(check, "->|::");
        for (Class<?> one : classes()) {
            check.holds(one + " is not local", !one.isLocalClass() && !one.isAnonymousClass());
        }
    }

    @Sentence(of = "Rule 3", words = "arrays of these and of your own classes, of one dimension, and arrays of two dimensions "
        + "of numbers")
    static void rule03TypesOfFields(Check check) {
        for (Class<?> one : classes()) {
            for (Field field : one.getDeclaredFields()) {
                Class<?> type = field.getType();
                Class<?> element = type.isArray() ? type.getComponentType() : type;
                boolean twice = element.isArray() && element.getComponentType().isPrimitive();
                check.holds(field + " is of a type that may be",
                    element.isPrimitive() || twice || classes().contains(element) || type == String.class);
            }
        }
    }

    @Sentence(of = "Rule 3", words = "On doubles and floats only + - * /, comparisons and casts, none of which may answer NaN")
    static void rule03ShareIsNeverNotANumber(Check check) throws IOException {
        without(check, "\\b(Float|Double|StrictMath)\\b");
        for (int price = 1; price <= 99; price++) {
            OnlineRooms x = new OnlineRooms();
            x.room(0, 9, price);
            check.due("share() of no talk", x.share(), -1000004);
            x.talk(0, 1, 1);
            x.talk(0, 1, 1);
            float share = Float.intBitsToFloat(x.share());
            check.holds("the share " + share + " is a number", share > 0f && share < 100f);
        }
    }

    @Sentence(of = "Rule 4", words = "The library: only what stands here.")
    static void rule04LibraryIsThatOfTheRules(Check check) throws IOException {
        without(check, "\\b(import|package)\\b|\\bjava\\.");
        for (String used : new CallGraph(SOURCE).library()) {
            check.holds("the program may use " + used, LIBRARY.contains(used));
        }
    }

    @Sentence(of = "Rule 5", words = "Static fields are final")
    static void rule05StaticFieldsAreConstants(Check check) throws IOException {
        without(check, "\\bstatic\\s*\\{");
        Set<Class<?>> types = Set.of(int.class, long.class, boolean.class, char.class, String.class);
        for (Class<?> one : classes()) {
            for (Field field : one.getDeclaredFields()) {
                if (Modifier.isStatic(field.getModifiers())) {
                    check.holds(field + " is a constant",
                        Modifier.isFinal(field.getModifiers()) && types.contains(field.getType()));
                }
            }
        }
    }

    @Sentence(of = "Rule 6", words = "A call of the face throws exactly what and where the document says, and nothing else ever "
        + "reaches its caller.")
    static void rule06NothingIsThrownAndNothingIsCaught(Check check) throws IOException {
        without(check, "\\b(throw|throws|try|catch|finally|synchronized|assert|instanceof|hashCode|toString)\\b");
    }

    /** Objects at the edges of what they can hold: as new, full of talks, of rooms, of text, and out of calls. */
    private static OnlineRooms inState(int state) {
        OnlineRooms x = new OnlineRooms();
        for (int i = 0; i < 20 && state > 0; i++) {
            x.talk(state == 1 ? 0 : 2 * i, state == 1 ? 48 : 2 * i + 2, 9);
            x.withdraw(state == 3 ? i : -1);
        }
        String text = state == 2 ? "t0,48,9" : "t0,48,9;w0;w19;r0,9,9;r7,1,99;u3;t40,48,9;u0;u1;u2;u3;u0;u1;";
        for (int i = 0; i < text.length() && state > 0; i++) {
            x.type(text.charAt(i));
        }
        for (int i = 0; i < 600 && state == 4; i++) {
            x.set(0, i & 3);
        }
        return x;
    }

    @Sentence(of = "Rule 7", words = "No call may ever throw by itself (only by a throw statement) or fail to end, for any "
        + "arguments in any state")
    static void rule07EachCallAnswersForAnyArgumentsInAnyState(Check check) throws IllegalAccessException {
        for (Method method : OnlineRooms.class.getDeclaredMethods()) {
            for (int state = 0; state < STATES && Modifier.isPublic(method.getModifiers()); state++) {
                answersInState(check, method, state);
            }
        }
    }

    private static void answersInState(Check check, Method method, int state) throws IllegalAccessException {
        Object[] arguments = new Object[method.getParameterCount()];
        int combinations = (int) Math.pow(EDGES.length, arguments.length);
        OnlineRooms x = inState(state);
        for (int i = 0; i < combinations; i++) {
            for (int k = 0, rest = i; k < arguments.length; k++, rest /= EDGES.length) {
                arguments[k] = EDGES[rest % EDGES.length];
            }
            if (i % CALLS_OF_A_STATE == 0) {
                x = inState(state);
            }
            String call = method.getName() + Arrays.toString(arguments) + " in state " + state;
            try {
                int answer = (Integer) method.invoke(x, arguments);
                check.holds(call + " is no answer: " + answer, answer >= 0 || ERRORS.contains(answer));
            } catch (InvocationTargetException e) {
                check.holds(call + " throws " + e.getCause(), false);
            }
        }
    }

    @Sentence(of = "Rule 8", words = "the calls that stand open at once (a level may go through several methods) stay under 300 "
        + "for every run of calls")
    static void rule08NothingCallsItself(Check check) throws IOException {
        CallGraph calls = new CallGraph(SOURCE);
        check.holds("methods are read", calls.methods().size() > FACE.size());
        check.holds("no method calls itself, but " + calls.recursive(), calls.recursive().isEmpty());
    }

    @Sentence(of = "Rule 11", words = "A method takes at most seven parameters.")
    static void rule11AtMostSevenParameters(Check check) {
        for (Class<?> one : classes()) {
            for (Method method : one.getDeclaredMethods()) {
                check.holds(method + " takes seven parameters at most", method.getParameterCount() <= 7);
            }
        }
    }

    @Sentence(of = "Rule 11", words = "Methods stay short (some sixty lines)")
    static void rule11MethodsOfSixtyLinesAtMost(Check check) throws IOException {
        // A method ends at the first brace that stands as far in as its head.
        Pattern head = Pattern.compile("( {4}| {8})[a-zA-Z].*\\) \\{");
        String[] lines = Files.readString(SOURCE).split("\n");
        for (int i = 0; i < lines.length; i++) {
            Matcher matcher = head.matcher(lines[i]);
            if (matcher.matches()) {
                int end = i;
                while (!lines[end].equals(matcher.group(1) + "}")) {
                    end++;
                }
                check.holds("short: " + lines[i], end - i <= 60);
            }
        }
    }

    @Sentence(of = "Rule 11", words = "calls that are no recursion go at most eight deep")
    static void rule11CallsAtMostEightDeep(Check check) throws IOException {
        CallGraph calls = new CallGraph(SOURCE);
        for (String method : calls.methods()) {
            check.holds(method + " goes " + calls.depthOf(method) + " deep", calls.depthOf(method) <= 8);
        }
    }

    @Sentence(of = "Rule 11", words = "the file has at most some twelve classes, and a class some twenty fields beside its "
        + "constants")
    static void rule11AtMostTwelveClassesOfTwentyFields(Check check) {
        check.holds("twelve classes at most", classes().size() <= 12);
        for (Class<?> one : classes()) {
            long fields = Arrays.stream(one.getDeclaredFields()).filter(f -> !Modifier.isStatic(f.getModifiers())).count();
            check.holds(one + " has twenty fields at most", fields <= 20);
        }
    }

    @Sentence(of = "Rule 12", words = "what is kept is counted, and refused beyond the document's limit")
    static void rule12AnObjectStaysSmall(Check check) throws IllegalAccessException {
        OnlineRooms x = new OnlineRooms();
        int before = sizeOf(x, Collections.newSetFromMap(new IdentityHashMap<>()));
        for (int i = 0; i < CALLS_OF_AN_OBJECT; i++) {
            if (i % 3 == 0) {
                x.type('u');
            } else {
                x.talk(i % 48, i % 48 + 1, 1);
            }
        }
        Set<Object> found = Collections.newSetFromMap(new IdentityHashMap<>());
        int after = sizeOf(x, found);
        check.holds("objects and arrays: " + found.size(), found.size() < 64);
        check.holds("fields and elements: " + before + ", then " + after, before < 1000 && after < 1000);
    }

    /** Fields of objects and elements of arrays, of all that the object keeps. */
    private static int sizeOf(Object object, Set<Object> found) throws IllegalAccessException {
        if (object == null || !found.add(object)) {
            return 0;
        }
        int size = 0;
        if (object.getClass().isArray()) {
            size = Array.getLength(object);
            for (int i = 0; i < Array.getLength(object) && !object.getClass().getComponentType().isPrimitive(); i++) {
                size += sizeOf(Array.get(object, i), found);
            }
            return size;
        }
        for (Field field : object.getClass().getDeclaredFields()) {
            if (!Modifier.isStatic(field.getModifiers())) {
                field.setAccessible(true);
                size += 1 + (field.getType().isPrimitive() ? 0 : sizeOf(field.get(object), found));
            }
        }
        return size;
    }

    @Sentence(of = "Rule 13", words = "the same calls always give the same answers")
    static void rule13SameCallsSameAnswersOnInterleavedObjects(Check check) {
        OnlineRooms x = new OnlineRooms();
        OnlineRooms other = new OnlineRooms();
        OnlineRooms twin = new OnlineRooms();
        for (int i = 0; i < CALLS_OF_AN_OBJECT / 4; i++) {
            int hour = i * 7 % 40;
            int size = 1 + i % 9;
            int told = x.talk(hour, hour + 1 + i % 8, size);
            other.set(0, i & 3);
            other.room(i & 7, size, 1 + i % 99);
            check.due("talk " + i, twin.talk(hour, hour + 1 + i % 8, size), told);
            check.due("withdraw " + i, twin.withdraw(i - 5), x.withdraw(i - 5));
            check.due("known " + i, twin.known(i & 3, i % 3), x.known(i & 3, i % 3));
            other.undo();
            check.due("undo " + i, i % 6 == 0 ? twin.undo() : 0, i % 6 == 0 ? x.undo() : 0);
        }
    }
}
