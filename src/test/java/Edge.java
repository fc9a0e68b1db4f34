import java.util.function.Consumer;
import java.util.function.Supplier;
import java.util.function.ToLongFunction;

/** A call at an edge of the document: its answer and, where it is refused, that nothing has changed. */
final class Edge {
  private Edge() {
  }

  static void none(String sentence, Supplier<CellYard> scene, ToLongFunction<CellYard> call) {
    unchanged(sentence, scene, call, Due.NONE);
  }

  static void full(String sentence, Supplier<CellYard> scene, ToLongFunction<CellYard> call) {
    unchanged(sentence, scene, call, Due.FULL);
  }

  /** The yard is as the same one without the call. */
  static void unchanged(String sentence, Supplier<CellYard> scene, ToLongFunction<CellYard> call, long want) {
    CellYard called = scene.get();
    Due.due(sentence, call.applyAsLong(called), want);
    Due.same(sentence + ", changing nothing", Whole.of(called), Whole.of(scene.get()));
  }

  /** The call is done: its answer; the yard behind it, for more. */
  static CellYard done(String sentence, Supplier<CellYard> scene, ToLongFunction<CellYard> call, long want) {
    CellYard called = scene.get();
    Due.due(sentence, call.applyAsLong(called), want);
    return called;
  }

  static Supplier<CellYard> with(Supplier<CellYard> scene, Consumer<CellYard> more) {
    return () -> {
      CellYard yard = scene.get();
      more.accept(yard);
      return yard;
    };
  }
}
