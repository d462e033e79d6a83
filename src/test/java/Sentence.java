import java.lang.annotation.ElementType;
import java.lang.annotation.Retention;
import java.lang.annotation.RetentionPolicy;
import java.lang.annotation.Target;

/**
 * Names the place in ../shared/DOC.md ("Terms", "Promise 5") and the words there that a test is for.
 * SentencesTest looks the words up, and tells which words of the document no test is for.
 */
@Retention(RetentionPolicy.RUNTIME)
@Target(ElementType.METHOD)
@interface Sentence {
    String in();

    String[] words();
}
