/** The edges that promises 20 to 22 name, sentence by sentence; what is refused changes nothing. */
public final class FramesEdgesTest {
  private static final int NONE = Due.NONE;

  public static void main(String[] args) {
    enter0To8();
    theLastOneFromTheTop();
    enterTooFew();
    enterIsFull();
    slotsAreEmptyOtherwise();
    handLatestFirstThenSlots();
    butForTheTop();
    theTopGoesToTheFrameAhead();
    leaveTheOnlyOne();
    answersWithoutAValue();
    leaveAnEmptyFrame();
    failFrameByFrame();
    failOfOneAndOfTwelve();
    emptyBehindAFailure();
    Due.finish();
  }

  // Promise 20: "SLOTS 0 .. n - 1 (n 0 .. 8) have n values from HAND"
  private static void enter0To8() {
    for (int n = 0; n <= 8; n++) {
      int values = n;
      CellYard y = Edge.done("enter " + n, () -> Scenes.inHand(12), x -> x.enter(values), 3);
      Due.due("HAND", y.count(2), 12 - n);
      Due.due("the last FRAME's", y.count(3), 0);
      Due.due("SLOTS", y.count(4), 9 + n);
      for (int slot = 0; slot < 8; slot++) {
        Due.due("slot " + slot, y.shape(slot, 0), slot < n ? 0 : NONE);
      }
    }
    int[] wrong = {-1, -8, 9, 10, 24, Integer.MIN_VALUE, Integer.MAX_VALUE};
    for (int n : wrong) {
      Edge.none("enter " + n, Scenes::fullHand, y -> y.enter(n));
    }
  }

  // Promise 20: "the last one from the top"
  private static void theLastOneFromTheTop() {
    CellYard y = Edge.done("enter", Scenes::toldOnTop, x -> x.enter(3), 3);
    Due.due("slot 0", y.look(0, 0), 30);
    Due.due("slot 1", y.look(1, 0), 31);
    Due.due("slot 2", y.look(2, 1), 32);
    CellYard one = Edge.done("enter with one", Scenes::toldOnTop, x -> x.enter(1), 3);
    Due.due("slot 0", one.look(0, 1), 32);
    Due.due("two stay in HAND", one.count(2), 4);
    one.leave(false);
    one.store(7);
    Due.due("those below it", one.look(7, 0), 31);
  }

  // "HAND (of the last FRAME) has too few"
  private static void enterTooFew() {
    Edge.none("three of two", Scenes::usual, y -> y.enter(3));
    Edge.none("one of none, though there are two ahead", Scenes::nothingInHand, y -> y.enter(1));
    Edge.none("four, with those of the FRAME ahead", Scenes::usual, y -> y.enter(4));
    Edge.none("eight of seven", () -> Scenes.inHand(9), y -> y.enter(8));
    Edge.done("eight of eight", () -> Scenes.inHand(10), y -> y.enter(8), 3);
    Edge.done("two of two", Scenes::usual, y -> y.enter(2), 3);
    Edge.done("none of none", Scenes::nothingInHand, y -> y.enter(0), 3);
  }

  // Promise 20 and "FULL .. or a FRAME"
  private static void enterIsFull() {
    CellYard y = new CellYard();
    for (int i = 2; i <= 12; i++) {
      Due.due("how many FRAMES there are", y.enter(0), i);
      Due.due("FRAMES", y.count(1), i);
    }
    Due.due("a 13th", y.enter(0), Due.FULL);
    Due.due("FRAMES", y.count(1), 12);
    Edge.full("a 13th, with none", Scenes::allFrames, x -> x.enter(0));
    Edge.full("a 13th, with one", Scenes::allFrames, x -> x.enter(1));
    CellYard left = Edge.done("leave one", Scenes::allFrames, x -> x.leave(false), 11);
    Due.due("room for one", left.enter(0), 12);
    Due.due("none for two", left.enter(0), Due.FULL);
  }

  // Promise 20: SLOTS n .. 7 have nothing, whatever a FRAME that ended had there
  private static void slotsAreEmptyOtherwise() {
    CellYard y = Edge.done("leave", Scenes::usual, x -> x.leave(false), 1);
    Due.due("enter again", y.enter(1), 2);
    Due.due("slot 0", y.look(0, 1), 4);
    for (int slot = 1; slot < 8; slot++) {
      Due.due("slot " + slot, y.shape(slot, 0), NONE);
    }
    Due.due("SLOTS", y.count(4), 3);
  }

  /** SLOTS 0, 3 and 7 and HAND of a second FRAME have TOLDS; OUT has nothing. */
  private static CellYard twoFrames() {
    CellYard y = Scenes.shapes();
    Scenes.told(y, 1);
    y.store(0);
    Scenes.told(y, 2);
    y.enter(0);
    int[] slots = {3, 7, 0};
    for (int slot : slots) {
      Scenes.told(y, 10 + slot);
      y.store(slot);
    }
    Scenes.told(y, 20, 21, 22);
    return y;
  }

  // Promise 21: "what its part of HAND has .. is DROPPED, the latest first, then its SLOTS from the last one to the first"
  private static void handLatestFirstThenSlots() {
    CellYard y = Edge.done("leave", FramesEdgesTest::twoFrames, x -> x.leave(false), 1);
    Due.outs("in that order", y, 22, 21, 20, 17, 13, 10);
    Due.counts("one FRAME", y, Scenes.SHAPES, 1, 1, 1, 1, 0, 0, 8, 6, 6);
  }

  // Promise 21: "but for the top (or with it, if it does not answer)"
  private static void butForTheTop() {
    CellYard y = Edge.done("leave and answer", FramesEdgesTest::twoFrames, x -> x.leave(true), 1);
    Due.outs("without the top", y, 21, 20, 17, 13, 10);
    CellYard one = Edge.with(FramesEdgesTest::twoFrames, x -> {
      x.drop();
      x.drop();
    }).get();
    Due.due("the top is all", one.leave(true), 1);
    Due.outs("the SLOTS alone", one, 22, 21, 17, 13, 10);
  }

  // Promise 21: "the top goes to the FRAME ahead, if it answers"
  private static void theTopGoesToTheFrameAhead() {
    CellYard y = Edge.done("leave and answer", FramesEdgesTest::twoFrames, x -> x.leave(true), 1);
    Due.due("HAND of the FRAME ahead", y.count(3), 2);
    y.store(1);
    Due.due("the answer on top", y.look(1, 1), 22);
    y.store(2);
    Due.due("below it what was there", y.look(2, 1), 2);
    CellYard box = Edge.done("answer with a BOX", Scenes::boxOnTop, x -> x.leave(true), 1);
    Due.due("it is there, the one in a SLOT is not", box.count(5), 1);
    box.store(1);
    Due.due("what is in it", box.look(1, 0x15), 32);
    CellYard wide = Edge.done("answer with a PAIR", Scenes::pairOnTop, x -> x.leave(true), 1);
    wide.store(1);
    Due.due("its first", wide.look(1, 1), 32);
    Due.due("its second", wide.look(1, 2), 33);
  }

  // Promise 21: "NONE if it is the only one"
  private static void leaveTheOnlyOne() {
    Edge.none("with a value, without an answer", Edge.with(CellYard::new, y -> y.number(1)), y -> y.leave(false));
    Edge.none("with a value, with an answer", Edge.with(CellYard::new, y -> y.number(1)), y -> y.leave(true));
    Edge.none("empty", CellYard::new, y -> y.leave(false));
    Edge.none("empty, with an answer", CellYard::new, y -> y.leave(true));
    Edge.none("behind a leave", Edge.with(Scenes::usual, y -> y.leave(true)), y -> y.leave(true));
    Edge.none("behind a failure", Edge.with(Scenes::usual, y -> y.fail()), y -> y.leave(false));
    Edge.done("one of two", Scenes::usual, y -> y.leave(false), 1);
    Edge.done("one of twelve", Scenes::allFrames, y -> y.leave(false), 11);
  }

  // Promise 21: "or it answers without a value"
  private static void answersWithoutAValue() {
    Edge.none("though there is one ahead", Scenes::nothingInHand, y -> y.leave(true));
    Edge.none("with nothing in SLOTS either", Edge.with(Scenes::usual, y -> y.enter(0)), y -> y.leave(true));
    Edge.none("the only one", Scenes::shapes, y -> y.leave(true));
    Edge.done("it does not answer", Scenes::nothingInHand, y -> y.leave(false), 1);
  }

  // Promise 21: a FRAME that has nothing ends likewise
  private static void leaveAnEmptyFrame() {
    Edge.unchanged("enter and leave", Scenes::usual, y -> y.enter(0) - y.leave(false), 1);
    Edge.unchanged("enter with one and answer with it", Scenes::usual, y -> y.enter(1) * y.load(0) * y.leave(true), 6);
  }

  // Promise 22: "FRAME by FRAME, the last one first, HAND is DROPPED, the latest first, then SLOTS from the last one to the first"
  private static void failFrameByFrame() {
    CellYard y = Edge.done("fail", FramesEdgesTest::twoFrames, x -> x.fail(), 2);
    Due.outs("in that order", y, 22, 21, 20, 17, 13, 10, 2, 1);
    CellYard usual = Edge.done("fail", Scenes::toldOnTop, x -> x.fail(), 2);
    Due.outs("ROW, BOX and CHOICE too", usual, 2, 32, 13, 12, 10, 11, 4, 1);
  }

  // Promise 22: "how many FRAMES there were"
  private static void failOfOneAndOfTwelve() {
    Edge.unchanged("a new yard", CellYard::new, y -> y.fail(), 1);
    Edge.unchanged("a new yard, twice", CellYard::new, y -> y.fail() * y.fail(), 1);
    Due.due("FRAMES", Edge.done("twelve", Scenes::allFrames, y -> y.fail(), 12).count(1), 1);
    Due.due("again", Edge.done("eleven", () -> Scenes.frames(11), y -> y.fail(), 11).fail(), 1);
    CellYard full = Edge.done("a full HAND", Scenes::fullHand, y -> y.fail(), 2);
    Due.due("HAND", full.count(2), 0);
    CellYard boxes = Edge.done("60 BOXES", Scenes::allBoxes, y -> y.fail(), 2);
    Due.due("BOXES", boxes.count(5), 0);
    CellYard rows = Edge.done("20 ROWS", Scenes::allRows, y -> y.fail(), 2);
    Due.due("ROWS", rows.count(6), 0);
  }

  // Promise 22: "one FRAME is there, empty"
  private static void emptyBehindAFailure() {
    CellYard y = Edge.done("fail", Scenes::allFrames, x -> x.fail(), 12);
    Due.counts("empty", y, Scenes.SHAPES, 1, 0, 0, 0, 0, 0, 7, 7);
    for (int slot = 0; slot < 8; slot++) {
      Due.due("slot " + slot, y.shape(slot, 0), NONE);
      Due.due("load " + slot, y.load(slot), NONE);
    }
    Due.due("drop", y.drop(), NONE);
    Due.due("leave", y.leave(false), NONE);
    for (int i = 0; i < 24; i++) {
      Due.due("HAND has room for 24", y.number(i), 1);
    }
    Due.due("and no more", y.number(24), Due.FULL);
    for (int i = 2; i <= 12; i++) {
      Due.due("there is room for 12 FRAMES", y.enter(0), i);
    }
    Due.due("and no more", y.enter(0), Due.FULL);
  }
}
