import java.lang.annotation.ElementType;
import java.lang.annotation.Retention;
import java.lang.annotation.RetentionPolicy;
import java.lang.annotation.Target;

/** Names the sentence of the document that a test would find broken, and the part it stands in. */
@Retention(RetentionPolicy.RUNTIME)
@Target(ElementType.METHOD)
@interface Sentence {
    /** "Terms, ERRORS", "Terms 1" to "Terms 4", "Promise 1" to "Promise 41". */
    String of();

    /** Its words, or those of them that name the boundary. */
    String says();
}
