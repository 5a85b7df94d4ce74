import java.io.DataInputStream;
import java.io.IOException;
import java.io.InputStream;
import java.lang.reflect.Constructor;
import java.lang.reflect.Field;
import java.lang.reflect.Member;
import java.lang.reflect.Method;
import java.lang.reflect.Modifier;
import java.nio.file.Files;
import java.nio.file.Path;
import java.util.ArrayList;
import java.util.Arrays;
import java.util.List;
import java.util.Set;
import java.util.TreeSet;
import java.util.regex.Matcher;
import java.util.regex.Pattern;

/** The rules of LANGUAGE.md that can be seen from outside: the face, and what of the library is used. */
public final class LanguageTest {
    private static final Set<String> FACE = Set.of("talk(int,int,int)", "withdraw(int)", "move(int,int)",
        "room(int,int,int)", "close(int)", "anew()", "set(int,int)", "talkOf(int,int)", "roomOf(int,int)",
        "at(int,int)", "hourOf(int,int)", "would(int,int,int,int)", "known(int,int)", "unknowing()", "share()",
        "bestRule(int)", "emptied(int)", "count(int)", "undo()", "type(int)", "clearText()", "fault(int)", "play()");
    private static final Set<String> CONSTANTS = Set.of("INVALID_ARGUMENT", "NOT_POSSIBLE", "LIMIT_REACHED",
        "NOT_FOUND");
    // What the program may call of the library; LANGUAGE.md allows more, which would be added here.
    private static final Set<String> LIBRARY = Set.of("java/lang/Object.<init>()V",
        "java/lang/System.arraycopy(Ljava/lang/Object;ILjava/lang/Object;II)V", "java/lang/Math.max(II)I",
        "java/lang/Math.min(II)I", "java/lang/Integer.bitCount(I)I", "java/lang/Long.bitCount(J)I");
    private static final Pattern RULED_OUT = Pattern.compile("\\b(throw|throws|try|catch|finally|import|package|"
        + "synchronized|volatile|transient|assert|instanceof|native|var|yield|protected|hashCode|toString)\\b"
        + "|->|::|\\bstatic\\s*\\{|\"");
    private static final int MOST_LINES_OF_A_METHOD = 60;
    private static final Check check = new Check();

    public static void main(String[] args) throws IOException {
        faceIsThatOfTheDocument();
        List<Class<?>> all = new ArrayList<>(List.of(OnlineRooms.class));
        all.addAll(Arrays.asList(OnlineRooms.class.getDeclaredClasses()));
        check.holds("some twelve classes", all.size() <= 12);
        for (Class<?> one : all) {
            innerNamesAreNotThoseOfTheFace(one);
            staticFieldsAreConstants(one);
            sizesAreSmall(one);
            libraryIsAllowed(one);
        }
        sourceHoldsNothingRuledOut(Files.readString(Path.of("src/main/java/OnlineRooms.java")));
        check.finish();
    }

    private static String signature(Method method) {
        StringBuilder told = new StringBuilder(method.getName()).append('(');
        for (Class<?> type : method.getParameterTypes()) {
            told.append(told.charAt(told.length() - 1) == '(' ? "" : ",").append(type.getName());
        }
        return told.append(')').toString();
    }

    private static void faceIsThatOfTheDocument() {
        int modifiers = OnlineRooms.class.getModifiers();
        check.holds("a public final class", Modifier.isPublic(modifiers) && Modifier.isFinal(modifiers));
        Set<String> methods = new TreeSet<>();
        for (Method method : OnlineRooms.class.getDeclaredMethods()) {
            if (isOfTheFace(method)) {
                methods.add(signature(method));
                check.holds(method + " returns an int", method.getReturnType() == int.class);
                check.holds(method + " is of the object", !Modifier.isStatic(method.getModifiers()));
            }
        }
        check.holds("the methods of the document, not " + methods, methods.equals(FACE));
        Set<String> fields = new TreeSet<>();
        for (Field field : OnlineRooms.class.getDeclaredFields()) {
            if (isOfTheFace(field)) {
                fields.add(field.getName());
            }
        }
        check.holds("the constants of the document, not " + fields, fields.equals(CONSTANTS));
        Constructor<?>[] constructors = OnlineRooms.class.getDeclaredConstructors();
        check.due("constructors", constructors.length, 1);
        check.holds("a public one without parameters",
            isOfTheFace(constructors[0]) && constructors[0].getParameterCount() == 0);
        for (Class<?> inner : OnlineRooms.class.getDeclaredClasses()) {
            check.holds(inner + " is static", Modifier.isStatic(inner.getModifiers()));
            check.holds(inner + " is not public",
                !Modifier.isPublic(inner.getModifiers()) && !Modifier.isProtected(inner.getModifiers()));
        }
    }

    private static boolean isOfTheFace(Member member) {
        boolean hidden = Modifier.isPrivate(member.getModifiers());
        check.holds(member + " is public or private", hidden || Modifier.isPublic(member.getModifiers()));
        return !hidden;
    }

    private static void innerNamesAreNotThoseOfTheFace(Class<?> one) {
        for (Method method : one.getDeclaredMethods()) {
            boolean named = FACE.stream().anyMatch(face -> face.startsWith(method.getName() + "("));
            boolean face = one == OnlineRooms.class && Modifier.isPublic(method.getModifiers());
            check.holds(method + " has a name of its own", !named || face);
        }
    }

    private static void staticFieldsAreConstants(Class<?> one) {
        Set<Class<?>> types = Set.of(int.class, long.class, boolean.class, char.class, String.class);
        for (Field field : one.getDeclaredFields()) {
            if (Modifier.isStatic(field.getModifiers())) {
                check.holds(field + " is a constant",
                    Modifier.isFinal(field.getModifiers()) && types.contains(field.getType()));
            }
        }
    }

    private static void sizesAreSmall(Class<?> one) {
        long fields = Arrays.stream(one.getDeclaredFields()).filter(f -> !Modifier.isStatic(f.getModifiers())).count();
        check.holds(one + " has some twenty fields", fields <= 20);
        for (Method method : one.getDeclaredMethods()) {
            check.holds(method + " takes seven parameters at most", method.getParameterCount() <= 7);
        }
    }

    /** Reads the pool of constants of the compiled class, where everything that it calls is named. */
    private static void libraryIsAllowed(Class<?> one) throws IOException {
        String file = one.getName() + ".class";
        try (InputStream stream = LanguageTest.class.getResourceAsStream(file);
            DataInputStream in = new DataInputStream(stream)) {
            in.skipBytes(8);
            int entries = in.readUnsignedShort();
            String[] texts = new String[entries];
            int[][] pairs = new int[entries][];
            int[] tags = new int[entries];
            for (int i = 1; i < entries; i++) {
                tags[i] = in.readUnsignedByte();
                switch (tags[i]) {
                    case 1:
                        texts[i] = in.readUTF();
                        break;
                    case 3:
                    case 4:
                        in.readInt();
                        break;
                    case 5:
                    case 6:
                        in.readLong();
                        i++;
                        break;
                    case 7:
                    case 8:
                    case 16:
                    case 19:
                    case 20:
                        pairs[i] = new int[] {in.readUnsignedShort(), 0};
                        break;
                    case 15:
                        in.readUnsignedByte();
                        in.readUnsignedShort();
                        break;
                    default:
                        pairs[i] = new int[] {in.readUnsignedShort(), in.readUnsignedShort()};
                }
            }
            for (int i = 1; i < entries; i++) {
                check.holds(file + " has no call that is made up at run time", tags[i] < 15 || tags[i] > 18);
                if (tags[i] >= 9 && tags[i] <= 11) {
                    String owner = texts[pairs[pairs[i][0]][0]];
                    int[] nameAndType = pairs[pairs[i][1]];
                    String used = owner + "." + texts[nameAndType[0]] + texts[nameAndType[1]];
                    check.holds(file + " may use " + used,
                        owner.equals("OnlineRooms") || owner.startsWith("OnlineRooms$") || LIBRARY.contains(used));
                }
            }
        }
    }

    private static void sourceHoldsNothingRuledOut(String source) {
        check.holds("plain signs alone", source.chars().allMatch(c -> c >= ' ' && c <= '~' || c == '\n'));
        String code = source.replaceAll("(?s)/\\*.*?\\*/", "").replaceAll("//[^\n]*", "");
        Matcher found = RULED_OUT.matcher(code);
        while (found.find()) {
            check.holds("no " + found.group() + " in the program", false);
        }
        methodsAreShort(source.split("\n"));
    }

    /** A method ends at the first brace that stands as far in as its head. */
    private static void methodsAreShort(String[] lines) {
        Pattern head = Pattern.compile("( {4}| {8})[a-z].*\\) \\{");
        for (int i = 0; i < lines.length; i++) {
            Matcher matcher = head.matcher(lines[i]);
            if (matcher.matches()) {
                int end = i;
                while (!lines[end].equals(matcher.group(1) + "}")) {
                    end++;
                }
                check.holds("short: " + lines[i], end - i <= MOST_LINES_OF_A_METHOD);
            }
        }
    }
}
