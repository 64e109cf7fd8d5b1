import java.lang.annotation.ElementType;
import java.lang.annotation.Retention;
import java.lang.annotation.RetentionPolicy;
import java.lang.annotation.Target;

/** The test of a sentence of DOC.md that names a boundary case: where it stands, and its very words. */
@Retention(RetentionPolicy.RUNTIME)
@Target(ElementType.METHOD)
@interface Edge {
    /** "Promise 3", "Terms" (what stands ahead of section 1), "Terms 2" (a section), or "What it is". */
    String at();

    /** Words of the document; blanks and line ends are alike. */
    String says();
}
