import java.lang.annotation.ElementType;
import java.lang.annotation.Retention;
import java.lang.annotation.RetentionPolicy;
import java.lang.annotation.Target;

/** Which words of the document a boundary test asks: they must stand there, in this part. */
@Retention(RetentionPolicy.RUNTIME)
@Target(ElementType.METHOD)
@interface Says {
    /** The promise's number; 0 is the part 'Terms', -1 the part 'What it is', -2 'Not promised'. */
    int promise();

    String[] words();
}
