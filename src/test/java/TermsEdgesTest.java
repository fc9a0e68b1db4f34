import java.util.function.Supplier;
import java.util.function.ToLongFunction;

/** The edges that "Terms" names, sentence by sentence; what is refused changes nothing. */
public final class TermsEdgesTest {
  private static final int NONE = Due.NONE;
  private static final int INT = Scenes.INT;
  private static final int TOLD = Scenes.TOLD;
  private static final int CHOICE = Scenes.CHOICE;
  private static final int[] NO_SLOTS = {-1, 8, -8, 16, Integer.MIN_VALUE, Integer.MAX_VALUE};

  public static void main(String[] args) {
    alwaysAnotherNumber();
    atMost24Shapes();
    oneToThreeFields();
    aToldOneBeginsWithInt();
    variants0To2();
    eachVariantWithOnePartOrNone();
    toldToABoxOnce();
    sizeOfEachKind();
    sizeAtMost8();
    slots0To7();
    atMost12Frames();
    atMost24InHandInAll();
    eachFrameHasThoseThatCame();
    onlyTheLastFramesHand();
    onlyTheLastFramesSlots();
    aSlotThatHasAValue();
    upToSixDigits();
    digitsOfEachKind();
    thePartAsItIs();
    elementsThatAreThere();
    aZeroEndsIt();
    Due.finish();
  }

  // "SHAPES have numbers as they are told (always another one, also of one that was told alike)"
  private static void alwaysAnotherNumber() {
    CellYard y = new CellYard();
    for (int i = 0; i < 3; i++) {
      Due.due("a RECORD told alike", y.record(false, INT, INT, NONE), 1 + 5 * i);
      Due.due("a TOLD told alike", y.record(true, INT, NONE, NONE), 2 + 5 * i);
      Due.due("a CHOICE told alike", y.choice(NONE, INT, NONE), 3 + 5 * i);
      Due.due("a BOX told alike", y.box(INT), 4 + 5 * i);
      Due.due("a ROW told alike", y.row(INT), 5 + 5 * i);
    }
    Due.due("INT has 0", y.about(0, 0), 0);
    y.number(1);
    y.make(4, 0);
    y.store(0);
    y.number(2);
    y.make(9, 0);
    Due.due("told alike, of another SHAPE all the same", y.set(0, 0), NONE);
  }

  // "at most 24"
  private static void atMost24Shapes() {
    CellYard y = new CellYard();
    for (int i = 1; i < 24; i++) {
      Due.due("SHAPE " + i, i % 2 == 0 ? y.row(INT) : y.choice(NONE, NONE, NONE), i);
    }
    Edge.none("a 25th SHAPE, RECORD", Scenes::allShapes, x -> x.record(false, INT, NONE, NONE));
    Edge.none("a 25th SHAPE, TOLD", Scenes::allShapes, x -> x.record(true, INT, NONE, NONE));
    Edge.none("a 25th SHAPE, CHOICE", Scenes::allShapes, x -> x.choice(NONE, NONE, NONE));
    Edge.none("a 25th SHAPE, BOX", Scenes::allShapes, x -> x.box(INT));
    Edge.none("a 25th SHAPE, LOOSE", Scenes::allShapes, x -> x.box(NONE));
    Edge.none("a 25th SHAPE, ROW", Scenes::allShapes, x -> x.row(INT));
  }

  // "A RECORD has 1 .. 3 fields"
  private static void oneToThreeFields() {
    Edge.none("a RECORD of no field", Scenes::usual, y -> y.record(false, NONE, NONE, NONE));
    Edge.none("a TOLD of no field", Scenes::usual, y -> y.record(true, NONE, NONE, NONE));
    CellYard one = Edge.done("one field", Scenes::usual, y -> y.record(false, INT, NONE, NONE), Scenes.SHAPES);
    Due.due("its field", one.about(Scenes.SHAPES, 2), INT);
    Due.due("no second", one.about(Scenes.SHAPES, 3), NONE);
    CellYard three = Edge.done("three fields", Scenes::usual, y -> y.record(false, INT, INT, INT), Scenes.SHAPES);
    Due.due("the third", three.about(Scenes.SHAPES, 4), INT);
  }

  // "it may be TOLD: then its first field is INT"
  private static void aToldOneBeginsWithInt() {
    for (int shape = 1; shape < Scenes.SHAPES; shape++) {
      int first = shape;
      Edge.none("a TOLD that begins with SHAPE " + first, Scenes::usual, y -> y.record(true, first, NONE, NONE));
      Edge.none("though INT is behind it", Scenes::usual, y -> y.record(true, first, INT, NONE));
      Edge.done("one that is not TOLD", Scenes::usual, y -> y.record(false, first, INT, NONE), Scenes.SHAPES);
      Edge.done("one that begins with INT", Scenes::usual, y -> y.record(true, INT, first, NONE), Scenes.SHAPES);
    }
  }

  // "A CHOICE has variants 0 .. 2"
  private static void variants0To2() {
    Edge.none("variant -1", Scenes::usual, y -> y.make(CHOICE, -1));
    Edge.none("variant 3", Scenes::usual, y -> y.make(CHOICE, 3));
    Edge.none("the least variant", Scenes::usual, y -> y.make(CHOICE, Integer.MIN_VALUE));
    Edge.none("the greatest variant", Scenes::usual, y -> y.make(CHOICE, Integer.MAX_VALUE));
    for (int variant = 0; variant < 3; variant++) {
      int made = variant;
      CellYard y = Edge.done("variant " + made, variant == 2 ? Scenes::toldOnTop : Scenes::usual, x -> x.make(CHOICE, made), 1);
      y.store(7);
      Due.due("state", y.state(7, 0), variant);
    }
  }

  // "each with one part or none"
  private static void eachVariantWithOnePartOrNone() {
    CellYard y = new CellYard();
    Due.due("none at all", y.choice(NONE, NONE, NONE), 1);
    for (int variant = 0; variant < 3; variant++) {
      Due.due("made of nothing", y.make(1, variant), 1);
      Due.due("in HAND", y.count(2), variant + 1);
    }
    for (int variant = 2; variant >= 0; variant--) {
      y.store(0);
      Due.due("state", y.state(0, 0), variant);
      Due.due("part", y.shape(0, 6), NONE);
    }
  }

  // "A BOX is of a SHAPE, which may be told to it later, once (it is LOOSE till then)"
  private static void toldToABoxOnce() {
    CellYard y = Edge.done("later", Scenes::usual, x -> x.tie(Scenes.LOOSE, INT), 1);
    Due.due("no more LOOSE", y.make(Scenes.LOOSE, 0), 1);
    Edge.none("LOOSE till then", Scenes::usual, x -> x.make(Scenes.LOOSE, 0));
    Edge.none("twice", Edge.with(Scenes::usual, x -> x.tie(Scenes.LOOSE, INT)), x -> x.tie(Scenes.LOOSE, TOLD));
    Edge.none("twice alike", Edge.with(Scenes::usual, x -> x.tie(Scenes.LOOSE, INT)), x -> x.tie(Scenes.LOOSE, INT));
    Edge.none("of a SHAPE from the first", Scenes::usual, x -> x.tie(Scenes.BOX, INT));
  }

  // "SIZE in cells: INT, BOX, ROW 1, a RECORD the sum of its fields, a CHOICE 1 more than its greatest part"
  private static void sizeOfEachKind() {
    CellYard y = new CellYard();
    int three = y.record(false, INT, INT, INT);
    int eight = y.record(true, INT, y.choice(NONE, three, INT), three);
    Due.due("INT", y.about(INT, 1), 1);
    Due.due("three INTs", y.about(three, 1), 3);
    Due.due("1 + 4 + 3", y.about(eight, 1), 8);
    Due.due("a BOX of SIZE 8", y.about(y.box(eight), 1), 1);
    Due.due("a LOOSE BOX", y.about(y.box(NONE), 1), 1);
    Due.due("a ROW of SIZE 8", y.about(y.row(eight), 1), 1);
    Due.due("no parts", y.about(y.choice(NONE, NONE, NONE), 1), 1);
    Due.due("greatest first", y.about(y.choice(three, INT, NONE), 1), 4);
    Due.due("greatest second", y.about(y.choice(INT, three, INT), 1), 4);
    Due.due("greatest third", y.about(y.choice(NONE, INT, three), 1), 4);
    Due.due("all alike, not their sum", y.about(y.choice(three, three, three), 1), 4);
  }

  // "at most 8"
  private static void sizeAtMost8() {
    int six = Scenes.SHAPES;
    int seven = six + 1;
    int eight = six + 2;
    Supplier<CellYard> scene = Edge.with(Scenes::usual, y -> {
      y.record(false, Scenes.TRIPLE, Scenes.TRIPLE, NONE);
      y.record(false, six, INT, NONE);
      y.record(false, six, Scenes.PAIR, NONE);
    });
    Due.due("a RECORD of 8", scene.get().about(eight, 1), 8);
    Edge.none("a RECORD of 9", scene, y -> y.record(false, eight, INT, NONE));
    Edge.none("a RECORD of 9, of three", scene, y -> y.record(false, Scenes.TRIPLE, Scenes.TRIPLE, Scenes.TRIPLE));
    Edge.none("a TOLD of 9", scene, y -> y.record(true, INT, eight, NONE));
    Edge.none("a RECORD of 24", scene, y -> y.record(false, eight, eight, eight));
    Edge.done("a TOLD of 8", scene, y -> y.record(true, INT, seven, NONE), eight + 1);
    Edge.done("a CHOICE of 8", scene, y -> y.choice(seven, seven, seven), eight + 1);
    Edge.none("a CHOICE of 9, first", scene, y -> y.choice(eight, NONE, NONE));
    Edge.none("a CHOICE of 9, second", scene, y -> y.choice(INT, eight, INT));
    Edge.none("a CHOICE of 9, third", scene, y -> y.choice(NONE, NONE, eight));
    Edge.done("a BOX is 1", scene, y -> y.box(eight), eight + 1);
    Edge.done("a ROW is 1", scene, y -> y.row(eight), eight + 1);
  }

  // "VALUES lie in SLOTS, 0 .. 7 of each FRAME"
  private static void slots0To7() {
    for (int slot = 0; slot < 8; slot++) {
      int s = slot;
      CellYard y = Edge.done("store " + s, Scenes::usual, x -> x.store(s), 1);
      Due.due("look " + s, y.look(s, 0), 31);
      Due.due("load " + s, y.load(s), 1);
    }
    for (int none : NO_SLOTS) {
      Edge.none("store " + none, Scenes::usual, y -> y.store(none));
      Edge.none("load " + none, Scenes::usual, y -> y.load(none));
      Edge.none("set " + none, Scenes::usual, y -> y.set(none, 0));
      Edge.none("swap " + none, Scenes::usual, y -> y.swap(none, 0));
      Edge.none("push " + none, Scenes::usual, y -> y.push(none, 0));
      Edge.none("pop " + none, Scenes::usual, y -> y.pop(none, 0));
      Edge.none("shape " + none, Scenes::usual, y -> y.shape(none, 0));
      Edge.unchanged("look " + none, Scenes::usual, y -> y.look(none, 0), 0);
      Edge.none("state " + none, Scenes::usual, y -> y.state(none, 0));
    }
  }

  // "FRAME (at most 12; one is there at first)"
  private static void atMost12Frames() {
    Due.due("at first", new CellYard().count(1), 1);
    Edge.done("the 12th", () -> Scenes.frames(11), y -> y.enter(0), 12);
    Edge.full("a 13th", Scenes::allFrames, y -> y.enter(0));
    Edge.full("a 13th, with values", Scenes::allFrames, y -> y.enter(2));
  }

  // "HAND, a pile (at most 24 in all"
  private static void atMost24InHandInAll() {
    CellYard y = Edge.done("the 24th", () -> Scenes.inHand(23), x -> x.number(1), 1);
    Due.due("24 in all", y.count(2), 24);
    Due.due("though the last FRAME has less", y.count(3), 22);
    Edge.full("a 25th", Scenes::fullHand, x -> x.number(1));
    Edge.full("a 25th in a FRAME that has none", Edge.with(Scenes::fullHand, x -> x.enter(0)), x -> x.number(1));
    Edge.done("values in SLOTS are not in HAND", Edge.with(Scenes::fullHand, x -> x.enter(1)), x -> x.number(1), 1);
  }

  // "each FRAME has those that came while it was the last one)"
  private static void eachFrameHasThoseThatCame() {
    CellYard y = Scenes.usual();
    Due.due("two of four", y.count(3), 2);
    y.enter(0);
    Due.due("none came", y.count(3), 0);
    y.number(1);
    y.number(2);
    y.number(3);
    Due.due("three of seven", y.count(3), 3);
    y.leave(false);
    Due.due("two of four", y.count(3), 2);
    Due.due("in all", y.count(2), 4);
    y.leave(false);
    Due.due("two of two", y.count(3), 2);
  }

  private static void notAhead(String call, ToLongFunction<CellYard> top, ToLongFunction<CellYard> own, ToLongFunction<CellYard> asked) {
    Due.due(call + ": there is a value ahead", top.applyAsLong(Scenes.usual()), 1);
    Edge.none(call + " of what is in HAND of the FRAME ahead", Edge.with(Scenes::usual, y -> {
      top.applyAsLong(y);
      y.enter(0);
      own.applyAsLong(y);
    }), asked);
  }

  // "Only the last FRAME's .. part of HAND [is] worked on"
  private static void onlyTheLastFramesHand() {
    ToLongFunction<CellYard> nothing = y -> 1;
    ToLongFunction<CellYard> box = y -> {
      Scenes.told(y, 40);
      return y.make(Scenes.BOX, 0);
    };
    ToLongFunction<CellYard> number = y -> y.number(50);
    ToLongFunction<CellYard> numberInSlot = y -> y.number(51) + y.store(0);
    ToLongFunction<CellYard> rowInSlot = y -> y.gather(Scenes.INTS, 0) + y.store(0);
    notAhead("make a RECORD", nothing, nothing, y -> y.make(Scenes.ONE, 0));
    notAhead("make a RECORD, with one of its own", nothing, number, y -> y.make(Scenes.PAIR, 0));
    notAhead("make a TOLD", nothing, nothing, y -> y.make(TOLD, 0));
    notAhead("make a CHOICE", nothing, nothing, y -> y.make(CHOICE, 1));
    notAhead("make a BOX", y -> y.number(9) + y.make(TOLD, 0) - 1, nothing, y -> y.make(Scenes.BOX, 0));
    notAhead("gather", nothing, nothing, y -> y.gather(Scenes.INTS, 1));
    notAhead("gather, with one of its own", nothing, number, y -> y.gather(Scenes.INTS, 2));
    notAhead("open", box, nothing, y -> y.open());
    notAhead("apart", y -> y.make(Scenes.PAIR, 0), nothing, y -> y.apart());
    notAhead("apart a CHOICE", y -> y.make(CHOICE, 1), nothing, y -> y.apart());
    notAhead("drop", nothing, nothing, y -> y.drop());
    notAhead("store", nothing, nothing, y -> y.store(0));
    notAhead("set", nothing, numberInSlot, y -> y.set(0, 0));
    notAhead("swap", nothing, numberInSlot, y -> y.swap(0, 0));
    notAhead("push", nothing, rowInSlot, y -> y.push(0, 0));
    notAhead("enter", nothing, nothing, y -> y.enter(1));
    notAhead("enter, with one of its own", nothing, number, y -> y.enter(2));
    notAhead("leave and answer", nothing, nothing, y -> y.leave(true));
  }

  // "Only the last FRAME's SLOTS .. are worked on"
  private static void onlyTheLastFramesSlots() {
    Edge.none("load", Scenes::usual, y -> y.load(7));
    Edge.none("set", Scenes::usual, y -> y.set(7, 0));
    Edge.none("swap", Scenes::usual, y -> y.swap(7, 0));
    Edge.none("shape", Scenes::usual, y -> y.shape(7, 0));
    Edge.unchanged("look", Scenes::usual, y -> y.look(7, 0), 0);
    Supplier<CellYard> rowsAhead = Edge.with(Scenes::usual, y -> {
      y.enter(0);
      y.number(1);
    });
    Edge.none("push", rowsAhead, y -> y.push(5, 0));
    Edge.none("pop", rowsAhead, y -> y.pop(4, 0));
    Edge.none("state of a ROW", rowsAhead, y -> y.state(4, 0));
    Edge.none("state of a CHOICE", rowsAhead, y -> y.state(2, 0));
    CellYard y = Edge.done("store", Scenes::usual, x -> x.store(7), 1);
    Due.due("nothing is dropped in the FRAME ahead", y.count(4), 10);
    y.leave(false);
    Due.due("what is there", y.look(7, 0), 5);
  }

  // "A PLACE: a SLOT that has a value, and a PATH"
  private static void aSlotThatHasAValue() {
    noPlace("a SLOT that never had one", Scenes::usual, 7, 0);
    noPlace("with a PATH", Scenes::usual, 7, 8);
    noPlace("a SLOT whose value went to HAND", Edge.with(Scenes::usual, y -> y.load(0)), 0, 0);
    noPlace("with a PATH", Edge.with(Scenes::usual, y -> y.load(0)), 0, 8);
  }

  /** None of the calls at a PLACE finds one, whether an INT or a TOLD is on top of HAND. */
  private static void noPlace(String name, Supplier<CellYard> scene, int slot, int path) {
    String at = name + " (" + slot + ", " + Integer.toHexString(path) + ") ";
    Edge.none(at + "shape", scene, y -> y.shape(slot, path));
    Edge.unchanged(at + "look", scene, y -> y.look(slot, path), 0);
    Edge.none(at + "state", scene, y -> y.state(slot, path));
    Edge.none(at + "pop", scene, y -> y.pop(slot, path));
    Edge.none(at + "set", scene, y -> y.set(slot, path));
    Edge.none(at + "swap", scene, y -> y.swap(slot, path));
    Edge.none(at + "push", scene, y -> y.push(slot, path));
    Edge.none(at + "set a TOLD", Edge.with(scene, y -> Scenes.told(y, 70)), y -> y.set(slot, path));
    Edge.none(at + "swap a TOLD", Edge.with(scene, y -> Scenes.told(y, 70)), y -> y.swap(slot, path));
    Edge.none(at + "push a TOLD", Edge.with(scene, y -> Scenes.told(y, 70)), y -> y.push(slot, path));
  }

  /** SLOT 7 has a CHAIN of so many LINKS. */
  private static CellYard chain(int links) {
    return Scenes.boxes(1 + links);
  }

  // "a PATH, a number of up to six digits in base 16, the lowest first"
  private static void upToSixDigits() {
    CellYard y = chain(4);
    Due.due("five digits", y.shape(7, 0x65656), Scenes.LINK);
    Due.due("six digits", y.shape(7, 0x565656), Scenes.CHAIN);
    Due.due("six digits", y.state(7, 0x565656), 1);
    noPlace("seven digits", () -> chain(4), 7, 0x6565656);
    noPlace("eight digits", () -> chain(4), 7, 0x56565656);
    noPlace("a seventh digit behind six", Scenes::usual, 6, 0x1000000);
    noPlace("the greatest", Scenes::usual, 3, Integer.MAX_VALUE);
    noPlace("below 0", Scenes::usual, 3, -1);
    noPlace("below 0, with digits of a PLACE", Scenes::usual, 0, 0x80000018);
    noPlace("below 0, with nothing behind", Scenes::usual, 3, 0xF0000001);
    noPlace("the least", Scenes::usual, 6, Integer.MIN_VALUE);
    Due.due("the lowest first", Scenes.usual().look(0, 0x18), 10);
    noPlace("the highest first", Scenes::usual, 0, 0x81);
  }

  // "1 .. 3 field 0 .. 2 of a RECORD, 5 what is in a BOX, 6 the part of a CHOICE as it is, 8 .. 15 element 0 .. 7 of a ROW"
  private static void digitsOfEachKind() {
    for (int digit = 1; digit < 16; digit++) {
      digit("of a ROW of two", 0, 0, digit, digit == 8 || digit == 9 ? TOLD : NONE);
      digit("of a BOX", 1, 0, digit, digit == 5 ? TOLD : NONE);
      digit("of a CHOICE", 2, 0, digit, digit == 6 ? TOLD : NONE);
      digit("of a PAIR", 3, 0, digit, digit == 1 || digit == 2 ? INT : NONE);
      digit("of a ROW of eight", 4, 0, digit, digit >= 8 ? INT : NONE);
      digit("of a ROW of none", 5, 0, digit, NONE);
      digit("of an INT", 6, 0, digit, NONE);
      digit("of a TOLD in a BOX", 1, 5, digit, digit == 1 ? INT : NONE);
    }
    CellYard y = Edge.done("a TRIPLE", Edge.with(Scenes::usual, x -> x.number(32)), x -> x.make(Scenes.TRIPLE, 0), 1);
    y.store(7);
    for (int field = 0; field < 3; field++) {
      Due.due("field " + field, y.look(7, 1 + field), 30 + field);
    }
    for (int element = 0; element < 8; element++) {
      Due.due("element " + element, y.look(4, 8 + element), 20 + element);
    }
  }

  private static void digit(String name, int slot, int ahead, int digit, int want) {
    int path = ahead == 0 ? digit : ahead | digit << 4;
    Due.due("digit " + digit + " " + name, Scenes.usual().shape(slot, path), want);
    if (want == NONE) {
      noPlace("digit " + digit + " " + name, Scenes::usual, slot, path);
    }
  }

  // "the part of a CHOICE as it is"
  private static void thePartAsItIs() {
    CellYard y = Edge.done("of an INT", Scenes::usual, x -> x.make(CHOICE, 1), 1);
    y.swap(2, 0);
    Due.due("an INT", y.shape(2, 6), INT);
    Due.due("that one", y.look(2, 6), 31);
    y.swap(2, 0);
    Due.due("a TOLD", y.shape(2, 6), TOLD);
    Due.due("that one", y.look(2, 0x16), 13);
    noPlace("no part", Edge.with(Scenes::usual, x -> {
      x.make(CHOICE, 0);
      x.swap(2, 0);
      x.drop();
    }), 2, 6);
  }

  // "8 .. 15 element 0 .. 7 of a ROW": those that are there
  private static void elementsThatAreThere() {
    noPlace("behind the last", Scenes::usual, 0, 10);
    noPlace("one that was popped", Edge.with(Scenes::usual, y -> {
      y.pop(0, 0);
      y.drop();
    }), 0, 9);
    CellYard y = Edge.done("one that was pushed", Scenes::toldOnTop, x -> x.push(0, 0), 3);
    Due.due("is there", y.look(0, 0x1A), 32);
  }

  // "a 0 ends it (nothing but 0 stands behind one)"
  private static void aZeroEndsIt() {
    Due.due("a 0 alone", Scenes.usual().shape(0, 0), Scenes.ROW);
    noPlace("behind a 0 at first", Scenes::usual, 3, 0x10);
    noPlace("behind two at first", Scenes::usual, 3, 0x100);
    noPlace("in the sixth digit alone", Scenes::usual, 3, 0x100000);
    noPlace("behind a 0 of a ROW", Scenes::usual, 0, 0x80);
    noPlace("behind a 0 of a BOX", Scenes::usual, 1, 0x50);
    noPlace("behind a 0 of a CHOICE", Scenes::usual, 2, 0x60);
    noPlace("behind a 0 of an INT", Scenes::usual, 6, 0x10);
    noPlace("behind a 0 in the middle", Scenes::usual, 0, 0x108);
    noPlace("what would be a digit of the value ahead", Scenes::usual, 4, 0x908);
  }
}
