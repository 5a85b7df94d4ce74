import java.lang.annotation.ElementType;
import java.lang.annotation.Retention;
import java.lang.annotation.RetentionPolicy;
import java.lang.annotation.Target;

/** The sentence of the document that a test is for: under which head it stands, and its own words. */
@Retention(RetentionPolicy.RUNTIME)
@Target(ElementType.METHOD)
@interface Sentence {
    /** "Promise 2", "Terms", "Rules", .. in DOC.md; "Rule 7" is the seventh rule of LANGUAGE.md. */
    String of();

    String words();
}
