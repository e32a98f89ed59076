import java.lang.annotation.ElementType;
import java.lang.annotation.Retention;
import java.lang.annotation.RetentionPolicy;
import java.lang.annotation.Target;

/** The words of the document that a test holds the class to, and where they stand there. */
@Retention(RetentionPolicy.RUNTIME)
@Target(ElementType.METHOD)
@interface Words {
    /** "Promise 6", or a part of the Terms: "Terms" (what stands ahead of its parts), "Terms 1" to "Terms 4". */
    String at();

    String value();
}
