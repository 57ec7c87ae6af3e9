import java.lang.reflect.InvocationTargetException;
import java.lang.reflect.Method;
import java.util.Arrays;
import java.util.Comparator;
import java.util.Set;
import java.util.TreeSet;

/**
 * The document's boundaries, a test for each sentence: its name begins with the promise (p05_) or the part of the Terms
 * (terms2_), and it quotes the words that it asks. Words that do not stand in the document are a fault, and so are words
 * of the Terms and of the promises that no test quotes.
 */
public final class BoundariesTest {
    private static final Class<?>[] TESTS = {
        TermsOfTexts.class, TermsOfWeights.class, PromisesOfTelling.class, PromisesOfAnswers.class, PromisesOfSearches.class};

    public static void main(String[] args) throws Exception {
        Sentences sentences = new Sentences();
        Set<Integer> parts = new TreeSet<>();
        int tests = 0;
        for (Class<?> tested : TESTS) {
            Method[] methods = tested.getDeclaredMethods();
            Arrays.sort(methods, Comparator.comparing(Method::getName));
            for (Method method : methods) {
                Says says = method.getAnnotation(Says.class);
                if (says == null) continue;
                tests++;
                parts.add(says.promise());
                run(method, says, sentences);
            }
        }
        Due.sentence("all sentences");
        for (int part = Sentences.NOT_PROMISED; part <= Sentences.PROMISES; part++) {
            Due.is(Sentences.nameOf(part) + " has a test", true, parts.contains(part));
            // 'What it is' begins with a summary of all the rest, and 'Not promised' tells mostly what is free.
            String left = part < Sentences.TERMS ? "" : sentences.leftOut(part);
            Due.is("words of " + Sentences.nameOf(part) + " that no test quotes: " + left, 0, left.length());
        }
        System.out.println(tests + " sentences");
        Due.end();
    }

    private static void run(Method method, Says says, Sentences sentences) throws Exception {
        Due.sentence(method.getName() + " (" + Sentences.nameOf(says.promise()) + ": '" + String.join(" .. ", says.words()) + "')");
        String prefix = says.promise() > 0 ? String.format("p%02d_", says.promise()) : "terms";
        Due.is("the test's name begins with " + prefix, true, method.getName().startsWith(prefix));
        for (String words : says.words()) Due.is("'" + words + "' stands in the document", true, sentences.quote(says.promise(), words));
        int before = Due.checked();
        try {
            method.setAccessible(true);
            method.invoke(null);
        } catch (InvocationTargetException e) {
            Due.is("it ends without " + e.getCause(), true, false);
        }
        Due.is("it asks something", true, Due.checked() > before);
    }
}
