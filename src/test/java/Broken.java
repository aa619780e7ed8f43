import java.lang.annotation.ElementType;
import java.lang.annotation.Repeatable;
import java.lang.annotation.Retention;
import java.lang.annotation.RetentionPolicy;
import java.lang.annotation.Target;

/** A change to the class that breaks the sentence of a test: with it the test must fail. */
@Retention(RetentionPolicy.RUNTIME)
@Target(ElementType.METHOD)
@Repeatable(Broken.All.class)
@interface Broken {
    /** A text of the class, from which on the first place with the text that is replaced is looked for. */
    String in();

    String was();

    String is();

    /** Holds more than one of them. */
    @Retention(RetentionPolicy.RUNTIME)
    @Target(ElementType.METHOD)
    @interface All {
        Broken[] value();
    }
}
