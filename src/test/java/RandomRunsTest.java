import java.util.ArrayList;
import java.util.List;
import java.util.Random;

/** Many runs of 512 calls, always the same ones, on CellYard and on PlainYard: all answers are alike. */
public final class RandomRunsTest {
  private static final int RUNS = 2000;
  private static final int CALLS = 512;
  private static final int[] ODD = {-1, -2, 24, 8, 9, Integer.MIN_VALUE, Integer.MAX_VALUE, 0x1000000, 0x7FFFFFF8};

  private final Random random;
  private final CellYard yard = new CellYard();
  private final PlainYard plain = new PlainYard();
  private final List<String> calls = new ArrayList<>();
  private final int dropWeight;
  private int next = 1;

  private RandomRunsTest(long seed) {
    random = new Random(seed);
    dropWeight = random.nextInt(4);
  }

  public static void main(String[] args) {
    int[] reached = new int[10];
    int full = 0;
    for (int run = 0; run < RUNS; run++) {
      RandomRunsTest test = new RandomRunsTest(run);
      if (!test.agrees()) {
        System.out.println("run " + run + ": " + test.calls);
        System.exit(1);
      }
      for (String call : test.calls) {
        full += call.endsWith(" -2") ? 1 : 0;
      }
      for (int what = 0; what < 10; what++) {
        reached[what] = Math.max(reached[what], test.yard.count(what));
      }
    }
    System.out.println(RUNS + " runs are alike, " + full + " answers FULL; most at the end of one "
        + java.util.Arrays.toString(reached));
  }

  private boolean agrees() {
    for (int i = 0; i < CALLS; i++) {
      if (!(i < 14 ? tellShape() : call()) || !countsAlike()) {
        return false;
      }
    }
    for (int i = -1; i <= 401; i++) {
      if (yard.out(i) != plain.out(i)) {
        return false;
      }
    }
    return placesAlike();
  }

  private boolean same(String call, long got, long want) {
    calls.add(call + " " + got);
    if (got != want) {
      System.out.println(call + " answered " + got + ", due is " + want);
    }
    return got == want;
  }

  private boolean countsAlike() {
    for (int what = -1; what <= 10; what++) {
      if (yard.count(what) != plain.count(what)) {
        return same("count(" + what + ")", yard.count(what), plain.count(what));
      }
    }
    return true;
  }

  private boolean placesAlike() {
    for (int slot = 0; slot < 8; slot++) {
      for (int path = 0; path < 0x1000; path++) {
        if (yard.shape(slot, path) != plain.shape(slot, path) || yard.look(slot, path) != plain.look(slot, path)
            || yard.state(slot, path) != plain.state(slot, path)) {
          return same("look(" + slot + ", " + path + ")", yard.look(slot, path), plain.look(slot, path));
        }
      }
    }
    return true;
  }

  private int odd(int usual) {
    return random.nextInt(40) == 0 ? ODD[random.nextInt(ODD.length)] : usual;
  }

  private int anyShape() {
    return odd(random.nextInt(plain.shapes.size()));
  }

  private int shapeOrNone() {
    return random.nextInt(3) == 0 ? -1 : anyShape();
  }

  private boolean tellShape() {
    int a = anyShape();
    int b = shapeOrNone();
    int c = shapeOrNone();
    switch (random.nextInt(9)) {
      case 0:
        return same("record(false, " + a + ", " + b + ", " + c + ")", yard.record(false, a, b, c), plain.record(false, a, b, c));
      case 1:
      case 2:
        a = random.nextInt(8) == 0 ? a : 0;
        return same("record(true, " + a + ", " + b + ", " + c + ")", yard.record(true, a, b, c), plain.record(true, a, b, c));
      case 3:
      case 4:
        a = random.nextBoolean() ? -1 : a;
        return same("choice(" + a + ", " + b + ", " + c + ")", yard.choice(a, b, c), plain.choice(a, b, c));
      case 5:
        return same("box(" + b + ")", yard.box(b), plain.box(b));
      case 6:
        return same("row(" + a + ")", yard.row(a), plain.row(a));
      case 7:
        a = looseBox(a);
        c = anyShape();
        return same("tie(" + a + ", " + c + ")", yard.tie(a, c), plain.tie(a, c));
      default:
        int what = odd(random.nextInt(6));
        return same("about(" + a + ", " + what + ")", yard.about(a, what), plain.about(a, what));
    }
  }

  private int looseBox(int otherwise) {
    for (int i = 0; i < plain.shapes.size(); i++) {
      if (plain.shapes.get(i).kind == 'B' && plain.shapes.get(i).parts[0] == -1) {
        return i;
      }
    }
    return otherwise;
  }

  /** Which kind of call comes next; making is the likeliest. */
  private boolean call() {
    int pick = random.nextInt(100);
    if (pick < 45) {
      return makeSomething();
    }
    if (pick < 52) {
      return takeApart();
    }
    if (pick < 84) {
      return atPlace();
    }
    if (pick < 94) {
      return slotOrFrame();
    }
    if (pick < 94 + dropWeight) {
      return same("drop()", yard.drop(), plain.drop());
    }
    return random.nextInt(3) == 0 ? tellShape() : makeSomething();
  }

  private boolean makeSomething() {
    if (plain.top() == null || random.nextInt(3) == 0) {
      int n = next++;
      return same("number(" + n + ")", yard.number(n), plain.number(n));
    }
    int shape = shapeThatEndsWithTop();
    int variant = variantFor(shape);
    if (plain.known(shape) && plain.shapes.get(shape).kind == 'W') {
      int n = odd(random.nextInt(Math.min(9, 1 + plain.hand().size())));
      return same("gather(" + shape + ", " + n + ")", yard.gather(shape, n), plain.gather(shape, n));
    }
    return same("make(" + shape + ", " + variant + ")", yard.make(shape, variant), plain.make(shape, variant));
  }

  private int shapeThatEndsWithTop() {
    int start = random.nextInt(plain.shapes.size());
    for (int i = 0; i < plain.shapes.size() && random.nextInt(12) != 0; i++) {
      int shape = (start + i) % plain.shapes.size();
      PlainYard.Shape s = plain.shapes.get(shape);
      for (int part : s.parts) {
        if (part == plain.top().shape) {
          return shape;
        }
      }
    }
    return anyShape();
  }

  private int variantFor(int shape) {
    if (plain.known(shape) && plain.shapes.get(shape).kind == 'C' && plain.top() != null) {
      for (int i = 0; i < 3; i++) {
        if (plain.shapes.get(shape).parts[i] == plain.top().shape && random.nextInt(3) != 0) {
          return i;
        }
      }
    }
    return odd(random.nextInt(3));
  }

  private boolean takeApart() {
    return random.nextBoolean() ? same("open()", yard.open(), plain.open()) : same("apart()", yard.apart(), plain.apart());
  }

  private int anySlot() {
    return odd(random.nextInt(8));
  }

  /** A PATH into what is in a SLOT, mostly one that is there; to a value of a SHAPE, if it comes by one. */
  private int anyPath(int slot, int towards) {
    int path = 0;
    for (int shift = 0; shift < 24; shift += 4) {
      if (random.nextInt(7) == 0 || towards != -1 && plain.shape(slot, path) == towards && random.nextInt(3) != 0) {
        break;
      }
      int digit = digitOn(slot, path, shift);
      if (digit == 0) {
        break;
      }
      path |= digit << shift;
    }
    return random.nextInt(30) == 0 ? random.nextInt() >>> random.nextInt(32) : odd(path);
  }

  private int digitOn(int slot, int path, int shift) {
    int start = random.nextInt(15);
    for (int i = 0; i < 15; i++) {
      int digit = 1 + (start + i) % 15;
      if (plain.at(slot, path | digit << shift) != null) {
        return digit;
      }
    }
    return random.nextInt(10) == 0 ? random.nextInt(16) : 0;
  }

  private boolean atPlace() {
    int slot = anySlot();
    for (int i = 0; i < 8 && plain.at(slot, 0) == null; i++) {
      slot = anySlot();
    }
    int path = anyPath(slot, plain.top() == null ? -1 : plain.top().shape);
    String at = "(" + slot + ", " + path + ")";
    switch (random.nextInt(8)) {
      case 0:
        return same("set" + at, yard.set(slot, path), plain.set(slot, path));
      case 1:
        return same("swap" + at, yard.swap(slot, path), plain.swap(slot, path));
      case 2:
      case 3:
        return same("push" + at, yard.push(slot, path), plain.push(slot, path));
      case 4:
        return same("pop" + at, yard.pop(slot, path), plain.pop(slot, path));
      case 5:
        return same("shape" + at, yard.shape(slot, path), plain.shape(slot, path));
      case 6:
        return same("look" + at, yard.look(slot, path), plain.look(slot, path));
      default:
        return same("state" + at, yard.state(slot, path), plain.state(slot, path));
    }
  }

  private boolean slotOrFrame() {
    int slot = anySlot();
    switch (random.nextInt(14)) {
      case 0:
      case 1:
      case 2:
        return same("load(" + slot + ")", yard.load(slot), plain.load(slot));
      case 3:
        int n = odd(random.nextInt(Math.min(9, 1 + plain.hand().size())));
        return same("enter(" + n + ")", yard.enter(n), plain.enter(n));
      case 4:
        boolean answers = random.nextBoolean();
        return same("leave(" + answers + ")", yard.leave(answers), plain.leave(answers));
      case 5:
        if (random.nextInt(12) == 0) {
          return same("fail()", yard.fail(), plain.fail());
        }
        return same("drop()", yard.drop(), plain.drop());
      default:
        return same("store(" + slot + ")", yard.store(slot), plain.store(slot));
    }
  }
}
