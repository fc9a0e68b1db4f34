/** The scenes of the edge tests are what their names say: else a refused call there would tell nothing. */
public final class ScenesTest {
  public static void main(String[] args) {
    Due.counts("shapes", Scenes.shapes(), Scenes.SHAPES, 1, 0, 0, 0, 0, 0, 0, 0, 0);
    Due.counts("usual", Scenes.usual(), Scenes.SHAPES, 2, 4, 2, 9, 1, 3, 7, 1, 1);
    Due.counts("nothing in HAND", Scenes.nothingInHand(), Scenes.SHAPES, 2, 2, 0, 9);
    Due.counts("full HAND", Scenes.fullHand(), Scenes.SHAPES, 2, 24, 22, 9);
    Due.counts("59 BOXES", Scenes.boxes(59), Scenes.SHAPES, 2, 4, 2, 10, 59, 3);
    Due.counts("60 BOXES", Scenes.allBoxes(), Scenes.SHAPES, 2, 4, 2, 10, 60, 3);
    Due.counts("12 ROWS", Scenes.rows(12), Scenes.SHAPES, 2, 4, 2, 9, 1, 12);
    Due.counts("19 ROWS", Scenes.rows(19), Scenes.SHAPES, 2, 4, 2, 10, 1, 19);
    Due.counts("20 ROWS", Scenes.allRows(), Scenes.SHAPES, 2, 4, 2, 10, 1, 20);
    Due.counts("11 FRAMES", Scenes.frames(11), Scenes.SHAPES, 11, 6, 2, 18);
    Due.counts("12 FRAMES", Scenes.allFrames(), Scenes.SHAPES, 12, 6, 2, 19);
    Due.counts("24 SHAPES", Scenes.allShapes(), 24, 2, 4, 2, 9);
    tops();
    wholeSeesAll();
    Due.finish();
  }

  private static void tops() {
    CellYard[] yards = {Scenes.usual(), Scenes.toldOnTop(), Scenes.pairOnTop(), Scenes.boxOnTop(),
        Scenes.rowOnTop(), Scenes.choiceOnTop(), Scenes.fullHand()};
    int[] shapes = {Scenes.INT, Scenes.TOLD, Scenes.PAIR, Scenes.BOX, Scenes.ROW, Scenes.CHOICE, Scenes.INT};
    for (int i = 0; i < yards.length; i++) {
      yards[i].store(7);
      Due.due("top of scene " + i, yards[i].shape(7, 0), shapes[i]);
    }
  }

  /** Each call that is done, small as it is, is seen in the text of the whole. */
  private static void wholeSeesAll() {
    differs("box", y -> y.box(0));
    differs("tie", y -> y.tie(Scenes.LOOSE, 0));
    differs("number", y -> y.number(1));
    differs("make", y -> y.make(Scenes.ONE, 0));
    differs("gather", y -> y.gather(Scenes.INTS, 1));
    differs("drop", y -> y.drop());
    differs("store", y -> y.store(7));
    differs("load", y -> y.load(6));
    differs("set", y -> y.set(6, 0));
    differs("set inside", y -> y.set(0, 0x18));
    differs("swap", y -> y.swap(6, 0));
    differs("swap inside", y -> y.swap(2, 0x16));
    differs("push", y -> y.push(5, 0));
    differs("pop", y -> y.pop(4, 0));
    differs("enter", y -> y.enter(0));
    differs("leave", y -> y.leave(true));
    differs("fail", y -> y.fail());
  }

  private static void differs(String name, java.util.function.ToIntFunction<CellYard> call) {
    CellYard called = Scenes.usual();
    Due.due(name + " is done", call.applyAsInt(called) >= 0 ? 1 : 0, 1);
    Due.due(name + " is seen", Whole.of(called).equals(Whole.of(Scenes.usual())) ? 1 : 0, 0);
  }
}
