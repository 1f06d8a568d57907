import java.lang.annotation.Retention;
import java.lang.annotation.RetentionPolicy;

/** The words of ../shared/DOC.md that a test is of: Edges looks whether they stand in that section. */
@Retention(RetentionPolicy.RUNTIME)
@interface Says {
  /** "P1" to "P33" a promise, "T0" to "T5" a part of the Terms, "W" what stands ahead of them. */
  String in();

  String value();
}
