/** The edges that promises 1 to 7 name, sentence by sentence; what is refused changes nothing. */
public final class ShapesEdgesTest {
  private static final int NONE = Due.NONE;
  private static final int INT = Scenes.INT;
  private static final int NEXT = Scenes.SHAPES;
  private static final int[] NO_SHAPES = {NEXT, 24, -2, Integer.MIN_VALUE, Integer.MAX_VALUE};

  public static void main(String[] args) {
    intAlone();
    oneFrameEmpty();
    recordBOnlyIfCIs();
    recordOfNoSuchShape();
    recordIfThereAre24();
    recordTooGreat();
    recordToldWithoutInt();
    choiceLikewise();
    choiceOfNoParts();
    boxLikewise();
    boxLoose();
    tieRefuses();
    tieAtItsEdges();
    rowLikewise();
    aboutKinds();
    aboutNoneSuch();
    aboutWhat();
    aboutNoSuchShape();
    Due.finish();
  }

  // Promise 1: "INT alone"
  private static void intAlone() {
    CellYard y = new CellYard();
    Due.due("SHAPES", y.count(0), 1);
    Due.due("INT", y.about(0, 0), 0);
    Due.due("its SIZE", y.about(0, 1), 1);
    Due.due("no other", y.about(1, 0), NONE);
    Due.due("the first that is told", y.row(0), 1);
  }

  // Promise 1: "one FRAME, empty"
  private static void oneFrameEmpty() {
    Due.counts("new", new CellYard(), 1, 1, 0, 0, 0, 0, 0, 0, 0, 0);
    Edge.none("drop", CellYard::new, y -> y.drop());
    Edge.none("open", CellYard::new, y -> y.open());
    Edge.none("apart", CellYard::new, y -> y.apart());
    Edge.none("enter with one", CellYard::new, y -> y.enter(1));
    Edge.none("leave", CellYard::new, y -> y.leave(false));
    Edge.none("leave and answer", CellYard::new, y -> y.leave(true));
    Edge.unchanged("fail", CellYard::new, y -> y.fail(), 1);
    Edge.unchanged("out", CellYard::new, y -> y.out(0), 0);
    for (int slot = 0; slot < 8; slot++) {
      int s = slot;
      Edge.none("store " + s, CellYard::new, y -> y.store(s));
      Edge.none("load " + s, CellYard::new, y -> y.load(s));
      Edge.none("shape " + s, CellYard::new, y -> y.shape(s, 0));
    }
  }

  // Promise 2: "(b and c may be NONE, b only if c is)"
  private static void recordBOnlyIfCIs() {
    Edge.done("b and c", Scenes::usual, y -> y.record(false, INT, NONE, NONE), NEXT);
    Edge.done("c alone", Scenes::usual, y -> y.record(false, INT, INT, NONE), NEXT);
    Edge.none("b alone", Scenes::usual, y -> y.record(false, INT, NONE, INT));
    Edge.none("b alone, of a TOLD", Scenes::usual, y -> y.record(true, INT, NONE, INT));
    Edge.none("a", Scenes::usual, y -> y.record(false, NONE, INT, INT));
    Edge.none("a and c", Scenes::usual, y -> y.record(false, NONE, INT, NONE));
    Edge.none("a and b", Scenes::usual, y -> y.record(false, NONE, NONE, INT));
  }

  // "NONE .. no such SHAPE", also one's own number, which it does not have yet
  private static void recordOfNoSuchShape() {
    for (int none : NO_SHAPES) {
      Edge.none("a is " + none, Scenes::usual, y -> y.record(false, none, NONE, NONE));
      Edge.none("b is " + none, Scenes::usual, y -> y.record(false, INT, none, NONE));
      Edge.none("c is " + none, Scenes::usual, y -> y.record(false, INT, INT, none));
      Edge.none("b of a TOLD is " + none, Scenes::usual, y -> y.record(true, INT, none, NONE));
    }
    Edge.done("the last one there", Scenes::usual, y -> y.record(false, NEXT - 1, NEXT - 1, NEXT - 1), NEXT);
  }

  // Promise 2: "NONE if there are 24"
  private static void recordIfThereAre24() {
    Edge.none("25th", Scenes::allShapes, y -> y.record(false, INT, INT, INT));
    Edge.none("25th, TOLD", Scenes::allShapes, y -> y.record(true, INT, INT, INT));
    CellYard y = new CellYard();
    for (int i = 1; i < 24; i++) {
      Due.due("one more", y.record(i % 2 == 0, INT, NONE, NONE), i);
    }
    Due.due("24", y.count(0), 24);
    Due.due("the last one", y.about(23, 0), 1);
    Due.due("25th", y.record(false, INT, NONE, NONE), NONE);
  }

  // Promise 2: "its SIZE is too great"
  private static void recordTooGreat() {
    CellYard y = new CellYard();
    int three = y.record(false, INT, INT, INT);
    int two = y.record(false, INT, INT, NONE);
    Due.due("8 in three", y.record(false, three, three, two), 3);
    Due.due("8 in one", y.record(false, 3, NONE, NONE), 4);
    Due.due("9 in three", y.record(false, three, three, three), NONE);
    Due.due("9 in two", y.record(false, 3, INT, NONE), NONE);
    Due.due("9 in two, a BOX", y.record(false, 3, y.box(3), NONE), NONE);
    Due.due("no more SHAPES", y.count(0), 6);
  }

  // Promise 2: "or a TOLD one does not begin with INT"
  private static void recordToldWithoutInt() {
    Edge.none("with a RECORD of one INT", Scenes::usual, y -> y.record(true, Scenes.ONE, NONE, NONE));
    Edge.none("with a TOLD", Scenes::usual, y -> y.record(true, Scenes.TOLD, INT, INT));
    CellYard y = Edge.done("INT", Scenes::usual, x -> x.record(true, INT, Scenes.ONE, Scenes.TOLD), NEXT);
    Due.due("TOLD", y.about(NEXT, 0), 2);
  }

  // Promise 3: "NONE likewise"
  private static void choiceLikewise() {
    Edge.none("25th", Scenes::allShapes, y -> y.choice(INT, INT, INT));
    for (int none : NO_SHAPES) {
      Edge.none("a is " + none, Scenes::usual, y -> y.choice(none, NONE, NONE));
      Edge.none("b is " + none, Scenes::usual, y -> y.choice(NONE, none, NONE));
      Edge.none("c is " + none, Scenes::usual, y -> y.choice(INT, INT, none));
    }
    Edge.done("the last one there", Scenes::usual, y -> y.choice(NEXT - 1, NEXT - 1, NEXT - 1), NEXT);
    CellYard y = new CellYard();
    int three = y.record(false, INT, INT, INT);
    int seven = y.record(false, three, three, INT);
    int eight = y.choice(NONE, seven, NONE);
    Due.due("SIZE 8", y.about(eight, 1), 8);
    Due.due("SIZE 9", y.choice(NONE, eight, NONE), NONE);
    Due.due("no more SHAPES", y.count(0), 4);
  }

  // Promise 3: "with these parts, or NONE"
  private static void choiceOfNoParts() {
    for (int mask = 0; mask < 8; mask++) {
      int a = (mask & 1) == 0 ? NONE : INT;
      int b = (mask & 2) == 0 ? NONE : INT;
      int c = (mask & 4) == 0 ? NONE : INT;
      CellYard y = Edge.done("parts " + mask, Scenes::usual, x -> x.choice(a, b, c), NEXT);
      Due.due("a", y.about(NEXT, 2), a);
      Due.due("b", y.about(NEXT, 3), b);
      Due.due("c", y.about(NEXT, 4), c);
      Due.due("SIZE", y.about(NEXT, 1), mask == 0 ? 1 : 2);
    }
  }

  // Promise 4: "NONE likewise", "(always another one)"
  private static void boxLikewise() {
    Edge.none("25th", Scenes::allShapes, y -> y.box(INT));
    for (int none : NO_SHAPES) {
      Edge.none("of " + none, Scenes::usual, y -> y.box(none));
    }
    CellYard y = Edge.done("of the last one there", Scenes::usual, x -> x.box(NEXT - 1), NEXT);
    Due.due("another one", y.box(NEXT - 1), NEXT + 1);
  }

  // Promise 4: "or LOOSE (NONE)"
  private static void boxLoose() {
    CellYard y = Edge.done("LOOSE", Scenes::usual, x -> x.box(NONE), NEXT);
    Due.due("another one", y.box(NONE), NEXT + 1);
    Due.due("kind", y.about(NEXT, 0), 4);
    Due.due("SIZE", y.about(NEXT, 1), 1);
    Due.due("of none", y.about(NEXT, 2), NONE);
    Due.due("tie one", y.tie(NEXT, INT), 1);
    Due.due("the other is LOOSE", y.about(NEXT + 1, 2), NONE);
    Edge.none("LOOSE, 25th", Scenes::allShapes, x -> x.box(NONE));
  }

  // Promise 5: "A LOOSE BOX gets its SHAPE"; NONE for another SHAPE than told, or none
  private static void tieRefuses() {
    for (int shape = 0; shape < Scenes.SHAPES; shape++) {
      int other = shape;
      if (shape != Scenes.LOOSE) {
        Edge.none("no LOOSE BOX: " + other, Scenes::usual, y -> y.tie(other, INT));
      }
    }
    for (int none : NO_SHAPES) {
      Edge.none("no such BOX: " + none, Scenes::usual, y -> y.tie(none, INT));
      Edge.none("to no such SHAPE: " + none, Scenes::usual, y -> y.tie(Scenes.LOOSE, none));
    }
    Edge.none("no BOX", Scenes::usual, y -> y.tie(NONE, INT));
    Edge.none("to NONE", Scenes::usual, y -> y.tie(Scenes.LOOSE, NONE));
    Edge.none("no BOX to NONE", Scenes::usual, y -> y.tie(NONE, NONE));
    Edge.none("one that was tied", Edge.with(Scenes::usual, y -> y.tie(Scenes.LOOSE, INT)), y -> y.tie(Scenes.LOOSE, INT));
  }

  // Promise 5: to INT, to itself, to the last one there, and where there are 24
  private static void tieAtItsEdges() {
    int[] all = {INT, Scenes.LOOSE, NEXT - 1};
    for (int of : all) {
      CellYard y = Edge.done("to " + of, Scenes::usual, x -> x.tie(Scenes.LOOSE, of), 1);
      Due.due("of it", y.about(Scenes.LOOSE, 2), of);
      Due.due("SIZE", y.about(Scenes.LOOSE, 1), 1);
    }
    CellYard y = Edge.done("24 SHAPES", Scenes::allShapes, x -> x.tie(Scenes.LOOSE, 23), 1);
    Due.due("of it", y.about(Scenes.LOOSE, 2), 23);
    Due.due("24", y.count(0), 24);
    CellYard itself = Edge.done("to itself", Scenes::usual, x -> x.tie(Scenes.LOOSE, Scenes.LOOSE), 1);
    Due.due("none can be made", itself.make(Scenes.LOOSE, 0), NONE);
  }

  // Promise 6: "NONE likewise", "(always another one)"
  private static void rowLikewise() {
    Edge.none("25th", Scenes::allShapes, y -> y.row(INT));
    for (int none : NO_SHAPES) {
      Edge.none("of " + none, Scenes::usual, y -> y.row(none));
    }
    Edge.none("of NONE", Scenes::usual, y -> y.row(NONE));
    CellYard y = Edge.done("of the last one there", Scenes::usual, x -> x.row(NEXT - 1), NEXT);
    Due.due("another one", y.row(NEXT - 1), NEXT + 1);
    Due.due("of a LOOSE BOX", y.row(Scenes.LOOSE), NEXT + 2);
  }

  // Promise 7: "0: 0 INT, 1 RECORD, 2 TOLD, 3 CHOICE, 4 BOX, 5 ROW"
  private static void aboutKinds() {
    int[] kinds = {0, 2, 1, 3, 4, 5, 4, 5, 1, 1, 4, 3, 5};
    for (int shape = 0; shape < kinds.length; shape++) {
      int s = shape;
      Edge.unchanged("kind of " + s, Scenes::usual, y -> y.about(s, 0), kinds[shape]);
    }
  }

  // Promise 7: "2 .. 4: its fields, parts, or (2) what it is of; NONE if there is none such"
  private static void aboutNoneSuch() {
    int[][] parts = {{NONE, NONE, NONE}, {INT, NONE, NONE}, {INT, INT, NONE}, {NONE, INT, Scenes.TOLD},
        {Scenes.TOLD, NONE, NONE}, {Scenes.TOLD, NONE, NONE}, {NONE, NONE, NONE}, {INT, NONE, NONE},
        {INT, NONE, NONE}, {INT, INT, INT}, {Scenes.CHAIN, NONE, NONE}, {NONE, Scenes.LINK, NONE},
        {Scenes.INTS, NONE, NONE}};
    for (int shape = 0; shape < parts.length; shape++) {
      for (int i = 0; i < 3; i++) {
        int s = shape;
        int what = 2 + i;
        Edge.unchanged("about(" + s + ", " + what + ")", Scenes::usual, y -> y.about(s, what), parts[shape][i]);
      }
    }
  }

  // Promise 7: "what 0 .. 1 .. 2 .. 4": no other
  private static void aboutWhat() {
    int[] whats = {-1, -2, 5, 6, Integer.MIN_VALUE, Integer.MIN_VALUE + 1, Integer.MIN_VALUE + 2, Integer.MAX_VALUE};
    for (int what : whats) {
      Edge.none("what " + what + " of INT", Scenes::usual, y -> y.about(INT, what));
      Edge.none("what " + what + " of a TRIPLE", Scenes::usual, y -> y.about(Scenes.TRIPLE, what));
      Edge.none("what " + what + " of the last one", Scenes::allShapes, y -> y.about(23, what));
    }
  }

  // "NONE .. no such SHAPE"
  private static void aboutNoSuchShape() {
    for (int what = 0; what < 5; what++) {
      int w = what;
      Edge.none("of NONE", Scenes::usual, y -> y.about(NONE, w));
      Edge.none("of the 25th", Scenes::allShapes, y -> y.about(24, w));
      for (int none : NO_SHAPES) {
        Edge.none("of " + none, Scenes::usual, y -> y.about(none, w));
      }
    }
  }
}
