import java.lang.annotation.ElementType;
import java.lang.annotation.Retention;
import java.lang.annotation.RetentionPolicy;
import java.lang.annotation.Target;

/** Marks the test of a sentence of the document, or of a part of one. */
@Retention(RetentionPolicy.RUNTIME)
@Target(ElementType.METHOD)
@interface Sentence {
    /** The number of the promise; 0 for what stands before the promises. */
    int promise() default 0;

    /** The sentence, word for word as it stands there. */
    String words();
}
