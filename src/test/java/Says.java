import java.lang.annotation.ElementType;
import java.lang.annotation.Retention;
import java.lang.annotation.RetentionPolicy;
import java.lang.annotation.Target;

/** Marks a test of one sentence of the document: where it stands there, and its words. */
@Retention(RetentionPolicy.RUNTIME)
@Target(ElementType.METHOD)
@interface Says {
    /** A promise by its number, or "terms", "section 1" to "section 3", and the like. */
    String at();

    String words();
}
