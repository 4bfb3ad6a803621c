import java.lang.annotation.Retention;
import java.lang.annotation.RetentionPolicy;

/** The promise and the sentence of the document that a test is for. */
@Retention(RetentionPolicy.RUNTIME)
@interface Sentence {
    int promise();

    String says();
}
