import java.lang.annotation.Retention;
import java.lang.annotation.RetentionPolicy;

/** The sentence of the document that a test holds the class to. */
@Retention(RetentionPolicy.RUNTIME)
@interface Sentence {
    /** The part of the document: "What it is", "Terms", "Section 1" to "Section 4", "Promise 1" to "Promise 38". */
    String of();

    /** The words of the document, or as many of them as tell which sentence it is. */
    String says();
}
