import java.util.function.Supplier;
import java.util.function.ToLongFunction;

/** "Terms": what DROPPED, ROOM and FULL say at their edges; and that NONE is asked ahead of FULL. */
public final class RoomEdgesTest {
  private static final int NONE = Due.NONE;
  private static final int INT = Scenes.INT;
  private static final int TOLD = Scenes.TOLD;
  private static final int CHOICE = Scenes.CHOICE;

  public static void main(String[] args) {
    toldThenItsFields();
    fieldsInOrder();
    aChoiceItsPart();
    aBoxWhatIsInIt();
    elementsFromTheFirst();
    anIntNothing();
    freeBehindThat();
    outKeepsTheFirst400();
    sixtyBoxes();
    twentyRows();
    eightElements();
    fullInHand();
    fullChangesNothingHalfway();
    aFullHandIsNoHindrance();
    noHindranceElsewhere();
    behindAllElseInHand();
    behindAllElseOfRoom();
    behindAllElseOfFrames();
    Due.finish();
  }

  /** Drops the top of HAND of a yard in which nothing was dropped. */
  private static CellYard dropped(String name, CellYard y, long... outs) {
    Due.due(name + ", ahead", y.count(9), 0);
    Due.due(name + ", drop", y.drop(), 1);
    Due.outs(name, y, outs);
    Due.due(name + ", all that were dropped", y.count(8), outs.length);
    return y;
  }

  // "DROPPED is: a TOLD RECORD: it tells (OUT gets its first field), then its fields in order"
  private static void toldThenItsFields() {
    CellYard y = Scenes.shapes();
    int outer = y.record(true, INT, TOLD, TOLD);
    y.number(-5);
    Scenes.told(y, 6, 7);
    y.make(outer, 0);
    dropped("a TOLD of TOLDS", y, -5, 6, 7);
    Due.due("once: nothing is left to tell", y.fail(), 1);
    Due.due("once", y.count(8), 3);
  }

  // "a RECORD its fields in order"
  private static void fieldsInOrder() {
    CellYard y = Scenes.shapes();
    int three = y.record(false, TOLD, TOLD, TOLD);
    Scenes.told(y, 3, 1, 2);
    y.make(three, 0);
    dropped("a RECORD", y, 3, 1, 2);
  }

  // "a CHOICE its part"
  private static void aChoiceItsPart() {
    CellYard part = Scenes.shapes();
    Scenes.told(part, 8);
    part.make(CHOICE, 2);
    dropped("its part", part, 8);
    CellYard other = Scenes.shapes();
    other.number(8);
    other.make(CHOICE, 1);
    dropped("a part that tells nothing", other);
    CellYard none = Scenes.shapes();
    none.make(CHOICE, 0);
    dropped("no part", none);
    CellYard behind = Scenes.shapes();
    Scenes.told(behind, 9);
    behind.make(CHOICE, 2);
    behind.drop();
    behind.make(CHOICE, 0);
    Due.due("no part, where a TOLD one's lay", behind.drop(), 1);
    Due.outs("no part, where a TOLD one's lay", behind, 9);
  }

  // "a BOX what is in it"
  private static void aBoxWhatIsInIt() {
    CellYard y = Scenes.shapes();
    Scenes.told(y, 4);
    y.make(Scenes.BOX, 0);
    dropped("a BOX", y, 4);
    Due.due("no BOX there", y.count(5), 0);
  }

  // "a ROW its elements from the first on"
  private static void elementsFromTheFirst() {
    CellYard y = Scenes.shapes();
    Scenes.told(y, 8, 6, 7, 5, 3, 0, 9, 1);
    y.gather(Scenes.ROW, 8);
    dropped("a ROW of eight", y, 8, 6, 7, 5, 3, 0, 9, 1);
    Due.due("no ROW there", y.count(6), 0);
    CellYard none = Scenes.shapes();
    none.gather(Scenes.ROW, 0);
    dropped("a ROW of none", none);
    Due.due("no ROW there", none.count(6), 0);
    CellYard popped = Scenes.shapes();
    Scenes.told(popped, 1, 2);
    popped.gather(Scenes.ROW, 2);
    popped.store(0);
    popped.pop(0, 0);
    popped.store(1);
    popped.load(0);
    dropped("without what was popped", popped, 1);
  }

  // "an INT nothing"
  private static void anIntNothing() {
    CellYard y = Scenes.shapes();
    y.number(77);
    dropped("an INT", y);
    Due.counts("nothing is there", y, Scenes.SHAPES, 1, 0, 0, 0, 0, 0, 0, 0, 0);
  }

  // "(A BOX's or ROW's place is free behind that.)"
  private static void freeBehindThat() {
    CellYard boxes = Edge.done("60 BOXES", Edge.with(Scenes::allBoxes, y -> y.load(7)), y -> y.drop(), 1);
    Due.due("one is left", boxes.count(5), 1);
    Scenes.told(boxes, 1);
    Due.due("a BOX more", boxes.make(Scenes.BOX, 0), 1);
    CellYard rows = Edge.done("20 ROWS", Edge.with(Scenes::allRows, y -> y.load(6)), y -> y.drop(), 1);
    Due.due("eleven are left", rows.count(6), 11);
    for (int i = 12; i <= 20; i++) {
      Due.due("a ROW more", rows.gather(Scenes.INTS, 0), 1);
      Due.due("there", rows.count(6), i);
    }
    Due.due("one too many again", rows.gather(Scenes.INTS, 0), Due.FULL);
    CellYard stored = Edge.done("what a SLOT has is dropped ahead", Scenes::allBoxes, y -> y.store(7), 1);
    Due.due("one is left", stored.count(5), 1);
  }

  // "OUT keeps the first 400": 512 calls make no more than 256 TOLD ones, so this one goes beyond
  private static void outKeepsTheFirst400() {
    CellYard y = Scenes.shapes();
    for (int i = 0; i < 403; i++) {
      Scenes.told(y, 1000 + i);
      y.drop();
      Due.due("OUT has", y.count(9), Math.min(i + 1, 400));
      Due.due("dropped", y.count(8), i + 1);
    }
    Due.due("the first", y.out(0), 1000);
    Due.due("the 400th", y.out(399), 1399);
    Due.due("none behind it", y.out(400), 0);
    Due.due("none behind it", y.out(402), 0);
  }

  // "ROOM: 60 BOXES .. there at once"
  private static void sixtyBoxes() {
    Supplier<CellYard> toldOn59 = Edge.with(() -> Scenes.boxes(59), y -> Scenes.told(y, 1));
    Supplier<CellYard> toldOn60 = Edge.with(Scenes::allBoxes, y -> Scenes.told(y, 1));
    CellYard y = Edge.done("the 60th BOX", toldOn59, x -> x.make(Scenes.BOX, 0), 1);
    Due.due("60 there", y.count(5), 60);
    Edge.full("a 61st BOX", toldOn60, x -> x.make(Scenes.BOX, 0));
    CellYard many = Scenes.shapes();
    for (int i = 0; i < 100; i++) {
      Scenes.told(many, i);
      Due.due("at once: never more than one", many.make(Scenes.BOX, 0), 1);
      Due.due("dropped or opened", i % 2 == 0 ? many.drop() : many.open(), 1);
      Due.due("none there", many.count(5), 0);
    }
  }

  // "20 ROWS .. there at once"
  private static void twentyRows() {
    CellYard y = Edge.done("the 20th ROW", () -> Scenes.rows(19), x -> x.gather(Scenes.INTS, 2), 1);
    Due.due("20 there", y.count(6), 20);
    Edge.full("a 21st ROW", Scenes::allRows, x -> x.gather(Scenes.INTS, 2));
    Edge.full("a 21st ROW of none", Scenes::allRows, x -> x.gather(Scenes.INTS, 0));
    CellYard many = Scenes.shapes();
    for (int i = 0; i < 100; i++) {
      Due.due("at once: never more than one", many.gather(Scenes.INTS, 0), 1);
      Due.due("dropped", many.drop(), 1);
      Due.due("none there", many.count(6), 0);
    }
  }

  // "ROWS of up to 8 elements"
  private static void eightElements() {
    CellYard y = Edge.done("the eighth", Edge.with(Scenes::usual, x -> x.pop(4, 0)), x -> x.push(4, 0), 8);
    Due.due("state", y.state(4, 0), 8);
    Edge.full("a ninth", Scenes::usual, x -> x.push(4, 0));
    Edge.done("eight at once", () -> Scenes.inHand(12), x -> x.gather(Scenes.INTS, 8), 1);
    Edge.none("nine at once", () -> Scenes.inHand(12), x -> x.gather(Scenes.INTS, 9));
  }

  /** 24 in HAND, on top what a SLOT of usual() had. */
  private static Supplier<CellYard> fullWith(int slot) {
    return Edge.with(() -> Scenes.inHand(23), y -> y.load(slot));
  }

  // "FULL, changing nothing, when one would be too many .. in HAND"
  private static void fullInHand() {
    Edge.full("number", Scenes::fullHand, y -> y.number(1));
    Edge.full("make a CHOICE of no part", Scenes::fullHand, y -> y.make(CHOICE, 0));
    Edge.full("gather none", Scenes::fullHand, y -> y.gather(Scenes.INTS, 0));
    Edge.full("apart a PAIR", fullWith(3), y -> y.apart());
    Edge.full("load", Scenes::fullHand, y -> y.load(6));
    Edge.full("pop", Scenes::fullHand, y -> y.pop(4, 0));
    Edge.done("number where there is room", () -> Scenes.inHand(23), y -> y.number(1), 1);
    Edge.done("make where there is room", () -> Scenes.inHand(23), y -> y.make(CHOICE, 0), 1);
    Edge.done("gather where there is room", () -> Scenes.inHand(23), y -> y.gather(Scenes.INTS, 0), 1);
    Edge.done("apart where there is room", Edge.with(() -> Scenes.inHand(22), y -> y.load(3)), y -> y.apart(), 2);
    Edge.done("load where there is room", () -> Scenes.inHand(23), y -> y.load(6), 1);
    Edge.done("pop where there is room", () -> Scenes.inHand(23), y -> y.pop(4, 0), 7);
  }

  private static Supplier<CellYard> tripleAmong(int n) {
    return Edge.with(() -> Scenes.inHand(n + 2), y -> y.make(Scenes.TRIPLE, 0));
  }

  // "FULL, changing nothing": three fields where there is room for two, and a HAND that other FRAMES have filled
  private static void fullChangesNothingHalfway() {
    Edge.done("a TRIPLE among 22", tripleAmong(22), y -> y.apart(), 3);
    Supplier<CellYard> among23 = Edge.with(tripleAmong(22), y -> {
      y.store(7);
      y.number(1);
      y.load(7);
    });
    Due.due("a TRIPLE among 23", among23.get().count(2), 23);
    Edge.full("a TRIPLE among 23", among23, y -> y.apart());
    Supplier<CellYard> among24 = Edge.with(among23, y -> {
      y.store(7);
      y.number(1);
      y.load(7);
    });
    Due.due("a TRIPLE among 24", among24.get().count(2), 24);
    Edge.full("a TRIPLE among 24", among24, y -> y.apart());
    Supplier<CellYard> others = Edge.with(Scenes::fullHand, y -> y.enter(0));
    Edge.full("make in an empty part of HAND", others, y -> y.make(CHOICE, 0));
    Edge.full("gather in an empty part of HAND", others, y -> y.gather(Scenes.INTS, 0));
  }

  private static void done(String call, ToLongFunction<CellYard> asked, long want, int inHand) {
    CellYard y = Edge.done(call, Scenes::fullHand, asked, want);
    Due.due(call + ": in HAND", y.count(2), inHand);
  }

  // FULL is only answered when one would be too many: what takes as many as it gives is done in a full HAND
  private static void aFullHandIsNoHindrance() {
    done("make a RECORD of one", y -> y.make(Scenes.ONE, 0), 1, 24);
    done("make a RECORD of two", y -> y.make(Scenes.PAIR, 0), 1, 23);
    done("make a TOLD", y -> y.make(TOLD, 0), 1, 24);
    done("make a CHOICE of a part", y -> y.make(CHOICE, 1), 1, 24);
    done("make a BOX", y -> y.make(TOLD, 0) * y.make(Scenes.BOX, 0), 1, 24);
    done("open", y -> y.make(TOLD, 0) * y.make(Scenes.BOX, 0) * y.open(), 1, 24);
    done("gather one", y -> y.gather(Scenes.INTS, 1), 1, 24);
    done("gather eight", y -> y.gather(Scenes.INTS, 8), 1, 17);
    done("apart a RECORD of one", y -> y.make(Scenes.ONE, 0) * y.apart(), 1, 24);
    done("apart a CHOICE of a part", y -> y.make(CHOICE, 1) * y.apart(), 1, 24);
    done("drop", y -> y.drop(), 1, 23);
    done("store", y -> y.store(7), 1, 23);
    done("set", y -> y.set(6, 0), 1, 23);
    done("swap", y -> y.swap(6, 0), 1, 24);
    done("push", y -> y.push(5, 0), 1, 23);
    done("enter", y -> y.enter(0), 3, 24);
    done("enter with two", y -> y.enter(2), 3, 22);
    done("leave and answer", y -> y.leave(true), 1, 3);
    done("enter none, load, leave and answer", y -> y.enter(1) * y.load(0) * y.leave(true), 6, 24);
    CellYard none = Edge.done("apart a CHOICE of no part", Edge.with(() -> Scenes.inHand(23), y -> y.make(CHOICE, 0)), y -> y.apart(), 0);
    Due.due("in HAND", none.count(2), 23);
  }

  // "one would be too many there": BOXES hinder no ROW, ROWS no BOX, FRAMES neither
  private static void noHindranceElsewhere() {
    Edge.done("a ROW beside 60 BOXES", Scenes::allBoxes, y -> y.gather(Scenes.INTS, 2), 1);
    Edge.done("a RECORD beside 60 BOXES", Scenes::allBoxes, y -> y.make(Scenes.PAIR, 0), 1);
    Edge.done("open one of 60 BOXES", Edge.with(Scenes::allBoxes, y -> y.load(1)), y -> y.open(), 1);
    Edge.done("a BOX beside 20 ROWS", Edge.with(Scenes::allRows, y -> Scenes.told(y, 1)), y -> y.make(Scenes.BOX, 0), 1);
    Edge.done("push beside 20 ROWS", Scenes::allRows, y -> y.push(5, 0), 1);
    Edge.done("pop beside 20 ROWS", Scenes::allRows, y -> y.pop(4, 0), 7);
    Edge.done("number in the 12th FRAME", Scenes::allFrames, y -> y.number(1), 1);
    Edge.done("leave the 12th FRAME", Scenes::allFrames, y -> y.leave(true), 11);
  }

  // "(asked behind all else)": HAND
  private static void behindAllElseInHand() {
    Supplier<CellYard> full = Scenes::fullHand;
    Edge.none("make: no such variant", full, y -> y.make(CHOICE, 3));
    Edge.none("make: no such variant", full, y -> y.make(CHOICE, -1));
    Edge.none("make: of another SHAPE", full, y -> y.make(CHOICE, 2));
    Edge.none("make: no such SHAPE", full, y -> y.make(Scenes.SHAPES, 0));
    Edge.none("make: an INT", full, y -> y.make(INT, 0));
    Edge.none("gather: no such SHAPE", full, y -> y.gather(Scenes.SHAPES, 0));
    Edge.none("gather: no ROW", full, y -> y.gather(Scenes.BOX, 0));
    Edge.none("gather: less than none", full, y -> y.gather(Scenes.INTS, -1));
    Edge.none("apart: an INT", full, y -> y.apart());
    Edge.none("apart: a TOLD of two", Edge.with(Scenes::usual, y -> {
      y.record(true, INT, INT, NONE);
      Scenes.fillHand(y, 24);
      y.make(Scenes.SHAPES, 0);
      y.store(7);
      y.number(1);
      y.load(7);
    }), y -> y.apart());
    Edge.none("apart: a ROW", fullWith(4), y -> y.apart());
    Edge.none("apart: a BOX", fullWith(1), y -> y.apart());
    Edge.none("apart: nothing", Edge.with(Scenes::fullHand, y -> y.enter(0)), y -> y.apart());
    Edge.none("load: no value", full, y -> y.load(7));
    Edge.none("load: no such SLOT", full, y -> y.load(8));
    Edge.none("pop: no element", full, y -> y.pop(5, 0));
    Edge.none("pop: no ROW", full, y -> y.pop(6, 0));
    Edge.none("pop: no value", full, y -> y.pop(7, 0));
    Edge.none("pop: no such PLACE", full, y -> y.pop(4, 1));
    Edge.none("pop: no such SLOT", full, y -> y.pop(-1, 0));
  }

  // "(asked behind all else)": BOXES, ROWS and elements
  private static void behindAllElseOfRoom() {
    Edge.none("make a BOX: of another SHAPE", Scenes::allBoxes, y -> y.make(Scenes.BOX, 0));
    Edge.none("make a BOX: LOOSE", Scenes::allBoxes, y -> y.make(Scenes.LOOSE, 0));
    Edge.none("make a BOX: nothing in HAND", Edge.with(Scenes::allBoxes, y -> y.enter(0)), y -> y.make(Scenes.BOX, 0));
    Edge.none("make a BOX: no such SHAPE", Scenes::allBoxes, y -> y.make(Scenes.SHAPES, 0));
    Edge.none("gather: of another SHAPE", Scenes::allRows, y -> y.gather(Scenes.ROW, 1));
    Edge.none("gather: too few", Scenes::allRows, y -> y.gather(Scenes.INTS, 3));
    Edge.none("gather: less than none", Scenes::allRows, y -> y.gather(Scenes.INTS, -1));
    Edge.none("gather: nine", Edge.with(Scenes::allRows, y -> Scenes.fillHand(y, 13)), y -> y.gather(Scenes.INTS, 9));
    Edge.none("gather: no ROW", Scenes::allRows, y -> y.gather(INT, 1));
    Edge.none("gather: no such SHAPE", Scenes::allRows, y -> y.gather(NONE, 0));
    Edge.none("push: of another SHAPE", Scenes::toldOnTop, y -> y.push(4, 0));
    Edge.none("push: nothing in HAND", Scenes::nothingInHand, y -> y.push(4, 0));
    Edge.none("push: no ROW", Scenes::usual, y -> y.push(4, 8));
  }

  // "(asked behind all else)": FRAMES
  private static void behindAllElseOfFrames() {
    Edge.none("enter: too few", Scenes::allFrames, y -> y.enter(3));
    Edge.none("enter: less than none", Scenes::allFrames, y -> y.enter(-1));
    Edge.none("enter: nine", Edge.with(Scenes::allFrames, y -> Scenes.fillHand(y, 24)), y -> y.enter(9));
    Edge.full("enter: eight", Edge.with(Scenes::allFrames, y -> Scenes.fillHand(y, 24)), y -> y.enter(8));
  }
}
