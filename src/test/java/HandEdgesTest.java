import java.util.function.Supplier;

/** The edges that promises 8 to 13 name, sentence by sentence; what is refused changes nothing. */
public final class HandEdgesTest {
  private static final int NONE = Due.NONE;
  private static final int INT = Scenes.INT;
  private static final int TOLD = Scenes.TOLD;
  private static final int CHOICE = Scenes.CHOICE;
  private static final int[] NO_SHAPES = {NONE, Scenes.SHAPES, 24, -2, Integer.MIN_VALUE, Integer.MAX_VALUE};
  private static final int[] ODD = {-1, 3, -2, 24, Integer.MIN_VALUE, Integer.MAX_VALUE};

  public static void main(String[] args) {
    anyNumber();
    numberIsFull();
    makeOfItsFields();
    makeTooFew();
    makeOfAnotherShape();
    makeOfTheVariantsPart();
    makeOfNoPart();
    variantCountsForNothing();
    makeABoxOfOne();
    makeALooseBox();
    makeNoSuch();
    makeCountsTold();
    gather0To8();
    gatherTheLastOnTop();
    gatherRefuses();
    openRefuses();
    openMakesRoom();
    apartHowMany();
    apartRefuses();
    dropRefuses();
    dropTheTopAlone();
    Due.finish();
  }

  private static long top(CellYard y) {
    y.store(7);
    return y.look(7, 0);
  }

  // Promise 8: "An INT": any long
  private static void anyNumber() {
    long[] all = {0, 1, -1, Integer.MAX_VALUE + 1L, Integer.MIN_VALUE - 1L, Long.MAX_VALUE, Long.MIN_VALUE};
    for (long v : all) {
      CellYard y = Edge.done("number " + v, Scenes::usual, x -> x.number(v), 1);
      Due.due("in HAND", y.count(3), 3);
      y.make(TOLD, 0);
      y.store(7);
      Due.due("look", y.look(7, 1), v);
      y.load(7);
      y.drop();
      Due.due("told", y.out(1), v);
    }
  }

  // Promise 8 and "FULL .. when one would be too many .. in HAND"
  private static void numberIsFull() {
    CellYard y = new CellYard();
    for (int i = 0; i < 24; i++) {
      Due.due("number", y.number(i), 1);
      Due.due("in HAND", y.count(2), i + 1);
    }
    Due.due("25th", y.number(24), Due.FULL);
    Due.due("in HAND", y.count(2), 24);
    Due.due("the top is as it was", top(y), 23);
    Due.due("room for one", y.number(25), 1);
    Due.due("none for two", y.number(26), Due.FULL);
  }

  // Promise 9: "A value of a RECORD (of its fields, the last one on top of HAND) .. in place of these"
  private static void makeOfItsFields() {
    CellYard y = Edge.done("a PAIR", Scenes::usual, x -> x.make(Scenes.PAIR, 0), 1);
    Due.due("in place of these", y.count(3), 1);
    y.store(7);
    Due.due("the last one from the top", y.look(7, 2), 31);
    Due.due("the first below it", y.look(7, 1), 30);
    Edge.done("all there are", Edge.with(Scenes::usual, x -> x.number(32)), x -> x.make(Scenes.TRIPLE, 0), 1);
  }

  // "HAND (of the last FRAME) has too few"
  private static void makeTooFew() {
    Edge.none("two of three", Scenes::usual, y -> y.make(Scenes.TRIPLE, 0));
    Edge.none("none of one", Scenes::nothingInHand, y -> y.make(Scenes.ONE, 0));
    Edge.none("none of one, TOLD", Scenes::nothingInHand, y -> y.make(TOLD, 0));
    Edge.none("one of two", Edge.with(Scenes::usual, y -> y.drop()), y -> y.make(Scenes.PAIR, 0));
    Edge.none("no part", Scenes::nothingInHand, y -> y.make(CHOICE, 1));
    Edge.none("no part, though there is one ahead", Scenes::nothingInHand, y -> y.make(CHOICE, 2));
    Edge.none("nothing for a BOX, though there is one ahead", Scenes::nothingInHand, y -> y.make(Scenes.BOX, 0));
  }

  // "one that is of another SHAPE than told"
  private static void makeOfAnotherShape() {
    Edge.none("a PAIR whose last is none", Scenes::toldOnTop, y -> y.make(Scenes.PAIR, 0));
    Edge.none("a PAIR whose first is none", Edge.with(Scenes::toldOnTop, y -> y.number(1)), y -> y.make(Scenes.PAIR, 0));
    Edge.none("a TRIPLE whose first is none", Edge.with(Scenes::toldOnTop, y -> Scenes.numbers(y, 1, 2)),
        y -> y.make(Scenes.TRIPLE, 0));
    Edge.none("a TRIPLE whose second is none", Edge.with(Scenes::usual, y -> {
      Scenes.told(y, 1);
      y.number(2);
    }), y -> y.make(Scenes.TRIPLE, 0));
    Edge.none("a TOLD of a TOLD", Scenes::toldOnTop, y -> y.make(TOLD, 0));
    Edge.none("a TOLD of a RECORD of one INT", Edge.with(Scenes::usual, y -> y.make(Scenes.ONE, 0)), y -> y.make(TOLD, 0));
    Edge.none("a part that is another variant's", Scenes::usual, y -> y.make(CHOICE, 2));
    Edge.none("a part that is another variant's", Scenes::toldOnTop, y -> y.make(CHOICE, 1));
    Edge.none("a BOX of another", Scenes::usual, y -> y.make(Scenes.BOX, 0));
    Edge.none("a BOX of a BOX", Scenes::boxOnTop, y -> y.make(Scenes.BOX, 0));
    Edge.none("fields in another order", Edge.with(Scenes::usual, y -> {
      y.record(false, TOLD, INT, NONE);
      Scenes.told(y, 1);
    }), y -> y.make(Scenes.SHAPES, 0));
  }

  // Promise 9: "a CHOICE (of the variant's part, if it has one"
  private static void makeOfTheVariantsPart() {
    CellYard one = Edge.done("variant 1", Scenes::usual, y -> y.make(CHOICE, 1), 1);
    Due.due("in place of it", one.count(3), 2);
    one.store(7);
    Due.due("variant", one.state(7, 0), 1);
    Due.due("part", one.look(7, 6), 31);
    CellYard two = Edge.done("variant 2", Scenes::toldOnTop, y -> y.make(CHOICE, 2), 1);
    Due.due("in place of it", two.count(3), 3);
    two.store(7);
    Due.due("variant", two.state(7, 0), 2);
    Due.due("part", two.look(7, 0x16), 32);
    for (int variant : ODD) {
      Edge.none("no such variant: " + variant, Scenes::usual, y -> y.make(CHOICE, variant));
      Edge.none("no such variant: " + variant, Scenes::nothingInHand, y -> y.make(CHOICE, variant));
    }
  }

  // Promise 9: a variant without a part takes nothing of HAND
  private static void makeOfNoPart() {
    CellYard y = Edge.done("beside others", Scenes::usual, x -> x.make(CHOICE, 0), 1);
    Due.due("one more", y.count(3), 3);
    y.store(7);
    Due.due("variant", y.state(7, 0), 0);
    Due.due("no part", y.shape(7, 6), NONE);
    Due.due("what was on top", top(y), 31);
    CellYard first = Edge.done("in an empty part of HAND", Scenes::nothingInHand, x -> x.make(CHOICE, 0), 1);
    Due.due("one", first.count(3), 1);
    CellYard last = Edge.done("variant 2 without a part", Scenes::usual, x -> x.make(Scenes.CHAIN, 2), 1);
    last.store(7);
    Due.due("variant", last.state(7, 0), 2);
    Edge.full("in a full HAND", Scenes::fullHand, x -> x.make(CHOICE, 0));
  }

  // Promise 9: "else variant counts for nothing"
  private static void variantCountsForNothing() {
    for (int variant : ODD) {
      Edge.done("a RECORD", Scenes::usual, y -> y.make(Scenes.PAIR, variant), 1);
      Edge.done("a TOLD", Scenes::usual, y -> y.make(TOLD, variant), 1);
      Edge.done("a BOX", Scenes::toldOnTop, y -> y.make(Scenes.BOX, variant), 1);
    }
  }

  // Promise 9: "a BOX (of one"
  private static void makeABoxOfOne() {
    CellYard y = Edge.done("a BOX", Scenes::toldOnTop, x -> x.make(Scenes.BOX, 0), 1);
    Due.due("in place of it", y.count(3), 3);
    Due.due("BOXES", y.count(5), 2);
    y.store(7);
    Due.due("in it", y.look(7, 0x15), 32);
    Edge.full("a 61st", Edge.with(Scenes::allBoxes, x -> Scenes.told(x, 1)), x -> x.make(Scenes.BOX, 0));
    Edge.done("a 60th", Edge.with(() -> Scenes.boxes(59), x -> Scenes.told(x, 1)), x -> x.make(Scenes.BOX, 0), 1);
  }

  // Promise 9: "not LOOSE)"
  private static void makeALooseBox() {
    Edge.none("of an INT", Scenes::usual, y -> y.make(Scenes.LOOSE, 0));
    Edge.none("of a TOLD", Scenes::toldOnTop, y -> y.make(Scenes.LOOSE, 0));
    Edge.none("of nothing", Scenes::nothingInHand, y -> y.make(Scenes.LOOSE, 0));
    Edge.none("of nothing in a new yard", Edge.with(CellYard::new, y -> y.box(NONE)), y -> y.make(1, 0));
    Edge.done("no more LOOSE", Edge.with(Scenes::usual, y -> y.tie(Scenes.LOOSE, INT)), y -> y.make(Scenes.LOOSE, 0), 1);
  }

  // "no such SHAPE"; an INT and a ROW are not made so
  private static void makeNoSuch() {
    for (int none : NO_SHAPES) {
      Edge.none("SHAPE " + none, Scenes::usual, y -> y.make(none, 0));
    }
    Edge.none("an INT", Scenes::usual, y -> y.make(INT, 0));
    Edge.none("a ROW of an INT", Scenes::usual, y -> y.make(Scenes.INTS, 0));
    Edge.none("a ROW of a TOLD", Scenes::toldOnTop, y -> y.make(Scenes.ROW, 0));
    Edge.none("a ROW of none", Scenes::nothingInHand, y -> y.make(Scenes.ROW, 0));
  }

  // Promise 27, 7: "TOLD RECORDS that were made": not those that were refused, nor others
  private static void makeCountsTold() {
    Due.due("made", Edge.done("a TOLD", Scenes::usual, y -> y.make(TOLD, 0), 1).count(7), 8);
    Due.due("not one more", Edge.done("a PAIR", Scenes::usual, y -> y.make(Scenes.PAIR, 0), 1).count(7), 7);
    Due.due("not one more", Edge.done("refused", Scenes::toldOnTop, y -> y.make(TOLD, 0), NONE).count(7), 8);
  }

  // Promise 10: "A ROW of n (0 .. 8) elements"
  private static void gather0To8() {
    for (int n = 0; n <= 8; n++) {
      int elements = n;
      CellYard y = Edge.done("gather " + n, () -> Scenes.inHand(12), x -> x.gather(Scenes.INTS, elements), 1);
      Due.due("in place of these", y.count(2), 13 - n);
      Due.due("ROWS", y.count(6), 4);
      y.store(7);
      Due.due("elements", y.state(7, 0), n);
    }
    int[] wrong = {-1, -8, 9, 10, Integer.MIN_VALUE, Integer.MAX_VALUE};
    for (int n : wrong) {
      Edge.none("gather " + n, Scenes::fullHand, y -> y.gather(Scenes.INTS, n));
      Edge.none("gather " + n, Scenes::nothingInHand, y -> y.gather(Scenes.INTS, n));
    }
    CellYard none = Edge.done("none of an empty HAND", Scenes::nothingInHand, y -> y.gather(Scenes.ROW, 0), 1);
    Due.due("one", none.count(3), 1);
  }

  // Promise 10: "the last one on top of HAND"
  private static void gatherTheLastOnTop() {
    CellYard y = Edge.done("two", Scenes::usual, x -> x.gather(Scenes.INTS, 2), 1);
    y.store(7);
    Due.due("the first", y.look(7, 8), 30);
    Due.due("the last", y.look(7, 9), 31);
    Due.due("no other", y.shape(7, 10), NONE);
    CellYard one = Edge.done("one", Scenes::usual, x -> x.gather(Scenes.INTS, 1), 1);
    one.store(7);
    Due.due("the top", one.look(7, 8), 31);
    Due.due("what was below it", top(one), 30);
  }

  // "no such SHAPE .. of another SHAPE than told .. too few"
  private static void gatherRefuses() {
    for (int none : NO_SHAPES) {
      Edge.none("SHAPE " + none, Scenes::usual, y -> y.gather(none, 0));
      Edge.none("SHAPE " + none, Scenes::usual, y -> y.gather(none, 1));
    }
    for (int shape = 0; shape < Scenes.SHAPES; shape++) {
      int other = shape;
      if (shape != Scenes.ROW && shape != Scenes.INTS && shape != Scenes.GRID) {
        Edge.none("no ROW: " + other, Scenes::usual, y -> y.gather(other, 1));
        Edge.none("no ROW: " + other, Scenes::usual, y -> y.gather(other, 0));
      }
    }
    Edge.none("three where there are two", Scenes::usual, y -> y.gather(Scenes.INTS, 3));
    Edge.none("one where there is none", Scenes::nothingInHand, y -> y.gather(Scenes.INTS, 1));
    Edge.none("one where there is one ahead", Scenes::nothingInHand, y -> y.gather(Scenes.ROW, 1));
    Edge.none("the top of another", Scenes::toldOnTop, y -> y.gather(Scenes.INTS, 2));
    Edge.none("the lowest of another", Edge.with(Scenes::toldOnTop, y -> y.number(1)), y -> y.gather(Scenes.INTS, 2));
    Edge.none("one in the middle of another", Edge.with(Scenes::toldOnTop, y -> y.number(1)), y -> y.gather(Scenes.INTS, 3));
    Edge.done("one below it of another", Edge.with(Scenes::toldOnTop, y -> y.number(1)), y -> y.gather(Scenes.INTS, 1), 1);
  }

  // Promise 11: "the BOX on top of HAND"
  private static void openRefuses() {
    Edge.none("nothing", Scenes::nothingInHand, y -> y.open());
    Edge.none("an INT", Scenes::usual, y -> y.open());
    Edge.none("a TOLD", Scenes::toldOnTop, y -> y.open());
    Edge.none("a PAIR", Scenes::pairOnTop, y -> y.open());
    Edge.none("a CHOICE", Scenes::choiceOnTop, y -> y.open());
    Edge.none("a ROW", Scenes::rowOnTop, y -> y.open());
    Edge.none("a BOX that is not on top", Edge.with(Scenes::boxOnTop, y -> y.number(1)), y -> y.open());
    Edge.none("a RECORD of a BOX", Edge.with(Scenes::boxOnTop, y -> {
      y.record(false, Scenes.BOX, NONE, NONE);
      y.make(Scenes.SHAPES, 0);
    }), y -> y.open());
  }

  // Promise 11: "comes in its place"; the BOX is no more there, and nothing is DROPPED
  private static void openMakesRoom() {
    CellYard y = Edge.done("open", Scenes::boxOnTop, x -> x.open(), 1);
    Due.due("in its place", y.count(3), 3);
    Due.due("BOXES", y.count(5), 1);
    Due.due("nothing told", y.count(8), 1);
    y.store(7);
    Due.due("what was in it", y.look(7, 1), 32);
    CellYard sixty = Edge.done("one of 60", Edge.with(Scenes::allBoxes, x -> x.load(1)), x -> x.open(), 1);
    Due.due("59", sixty.count(5), 59);
    Due.due("the 60th again", sixty.make(Scenes.BOX, 0), 1);
    Due.due("60", sixty.count(5), 60);
  }

  // Promise 12: "The parts of the RECORD (not TOLD) or CHOICE .. come in its place, in order: how many"
  private static void apartHowMany() {
    apart("a RECORD of one", Edge.with(Scenes::usual, y -> y.make(Scenes.ONE, 0)), 1, 2);
    apart("a RECORD of two", Edge.with(Scenes::usual, y -> y.make(Scenes.PAIR, 0)), 2, 2);
    apart("a RECORD of three", Edge.with(Scenes::usual, y -> {
      y.number(32);
      y.make(Scenes.TRIPLE, 0);
    }), 3, 3);
    apart("a CHOICE of a part", Edge.with(Scenes::usual, y -> y.make(CHOICE, 1)), 1, 2);
    apart("a CHOICE of no part", Edge.with(Scenes::usual, y -> y.make(CHOICE, 0)), 0, 2);
    CellYard told = Edge.done("a CHOICE of a TOLD", Scenes::choiceOnTop, y -> y.apart(), 1);
    Due.due("it is not dropped", told.count(8), 1);
    told.store(7);
    Due.due("it is there", told.look(7, 1), 32);
  }

  /** The INTs 30, 31 .. that it was made of are in HAND again, though others came there in between. */
  private static void apart(String name, Supplier<CellYard> scene, int parts, int left) {
    CellYard y = Edge.done(name, Edge.with(scene, x -> {
      x.store(7);
      Scenes.numbers(x, 90, 4);
      x.drop();
      x.drop();
      x.drop();
      x.drop();
      x.load(7);
    }), x -> x.apart(), parts);
    Due.due(name + ": in HAND", y.count(3), left);
    for (int i = left - 1; i >= 0; i--) {
      Due.due(name + ": in order", top(y), 30 + i);
    }
  }

  // Promise 12: "(not TOLD)", and "NONE .. no such .. value"
  private static void apartRefuses() {
    Edge.none("nothing", Scenes::nothingInHand, y -> y.apart());
    Edge.none("an INT", Scenes::usual, y -> y.apart());
    Edge.none("a TOLD", Scenes::toldOnTop, y -> y.apart());
    Edge.none("a TOLD of three", Edge.with(Scenes::usual, y -> {
      y.record(true, INT, INT, INT);
      y.number(32);
      y.make(Scenes.SHAPES, 0);
    }), y -> y.apart());
    Edge.none("a BOX", Scenes::boxOnTop, y -> y.apart());
    Edge.none("a ROW", Scenes::rowOnTop, y -> y.apart());
    Edge.none("a PAIR that is not on top", Edge.with(Scenes::pairOnTop, y -> y.number(1)), y -> y.apart());
    Edge.none("a TOLD in full HAND", Edge.with(() -> Scenes.inHand(24), y -> y.make(TOLD, 0)), y -> y.apart());
  }

  // Promise 13 and "HAND (of the last FRAME) has too few"
  private static void dropRefuses() {
    Edge.none("nothing in a new yard", CellYard::new, y -> y.drop());
    Edge.none("nothing, though there is one ahead", Scenes::nothingInHand, y -> y.drop());
    Edge.none("all were dropped", Edge.with(Scenes::nothingInHand, y -> {
      y.leave(false);
      y.drop();
      y.drop();
    }), y -> y.drop());
  }

  // Promise 13: "The top of HAND is DROPPED"
  private static void dropTheTopAlone() {
    CellYard y = Edge.done("drop", Edge.with(Scenes::usual, x -> Scenes.told(x, 50, 51)), x -> x.drop(), 1);
    Due.due("one less", y.count(3), 3);
    Due.outs("the top alone", y, 2, 51);
    Due.due("again", y.drop(), 1);
    Due.outs("the next", y, 2, 51, 50);
    CellYard last = Edge.done("the last one", Edge.with(Scenes::usual, x -> x.drop()), x -> x.drop(), 1);
    Due.due("none", last.count(3), 0);
    Due.due("of the FRAME ahead", last.count(2), 2);
  }
}
