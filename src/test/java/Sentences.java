import java.lang.reflect.InvocationTargetException;
import java.lang.reflect.Method;
import java.util.Arrays;
import java.util.Comparator;
import java.util.List;

/** Runs the tests of a class that are each for one sentence of the document. */
final class Sentences {
    private Sentences() {
    }

    static void test(Class<?> tests) {
        Check check = new Check();
        List<Method> methods = in(tests);
        for (Method method : methods) {
            Sentence sentence = method.getAnnotation(Sentence.class);
            check.at(sentence.of() + " \"" + sentence.words() + "\" (" + method.getName() + "): ");
            int before = check.checked();
            run(method, check);
            check.holds("its test asks something", check.checked() > before);
        }
        System.out.println(methods.size() + " sentences");
        check.finish();
    }

    /** In the order of their names, since reflection knows no other that stays. */
    static List<Method> in(Class<?> tests) {
        return Arrays.stream(tests.getDeclaredMethods()).filter(m -> m.isAnnotationPresent(Sentence.class))
            .sorted(Comparator.comparing(Method::getName)).toList();
    }

    private static void run(Method method, Check check) {
        try {
            method.invoke(null, check);
        } catch (IllegalAccessException e) {
            throw new IllegalStateException(e);
        } catch (InvocationTargetException e) {
            e.getCause().printStackTrace(System.out);
            check.holds("its test ends", false);
        }
    }
}
