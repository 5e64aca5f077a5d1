import java.lang.annotation.ElementType;
import java.lang.annotation.Retention;
import java.lang.annotation.RetentionPolicy;
import java.lang.annotation.Target;

/** Names the one sentence of ../shared/DOC.md that a test stands for. */
@Retention(RetentionPolicy.RUNTIME)
@Target(ElementType.METHOD)
@interface Says {

    /** "Promise 1" to "Promise 44", "Terms 1" to "Terms 6", "Terms" for all of those; "What it is". */
    String part();

    /** The words of the document as they stand there; SentencesTest looks them up. */
    String words();
}
