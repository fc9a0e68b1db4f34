/** All that can be told of a yard, as one text. Reading it takes the yard to pieces. */
final class Whole {
  private static final int[] FIELD_DIGITS = {1, 2, 3};

  private final CellYard yard;
  private final StringBuilder text = new StringBuilder();
  private final int[] kinds;

  private Whole(CellYard yard) {
    this.yard = yard;
    kinds = new int[Math.max(0, Math.min(24, yard.count(0)))];
  }

  static String of(CellYard yard) {
    Whole whole = new Whole(yard);
    whole.counts();
    whole.shapes();
    whole.outs(0);
    whole.frames();
    return whole.text.toString();
  }

  private void say(String what, long value) {
    text.append(what).append(' ').append(value).append('\n');
  }

  private void counts() {
    for (int what = 0; what < 10; what++) {
      say("count " + what, yard.count(what));
    }
  }

  private void shapes() {
    for (int shape = 0; shape < kinds.length; shape++) {
      kinds[shape] = yard.about(shape, 0);
      for (int what = 1; what < 5; what++) {
        say("about " + shape + " kind " + kinds[shape] + " what " + what, yard.about(shape, what));
      }
    }
  }

  private void outs(int from) {
    for (int i = from; i < yard.count(9) && i < 400; i++) {
      say("out " + i, yard.out(i));
    }
  }

  /** The last FRAME's SLOTS, its HAND from the top by way of SLOT 0, then the FRAME ahead of it. */
  private void frames() {
    int told = yard.count(9);
    for (int i = 0; i < 12; i++) {
      for (int slot = 0; slot < 8; slot++) {
        place("slot " + slot, slot, 0, 0);
      }
      for (int j = 0; j < 24 && yard.store(0) == 1; j++) {
        place("hand", 0, 0, 0);
      }
      if (yard.leave(false) < 1) {
        break;
      }
      say("frames", yard.count(1));
    }
    say("fail", yard.fail());
    outs(told);
    counts();
  }

  private void place(String name, int slot, int path, int digits) {
    int shape = yard.shape(slot, path);
    say(name + " at " + Integer.toHexString(path) + " shape", shape);
    if (shape < 0 || shape >= kinds.length) {
      return;
    }
    switch (kinds[shape]) {
      case 0:
        say("look", yard.look(slot, path));
        break;
      case 1:
      case 2:
        steps(name, slot, path, digits, FIELD_DIGITS);
        break;
      case 3:
        say("state", yard.state(slot, path));
        steps(name, slot, path, digits, 6);
        break;
      case 4:
        steps(name, slot, path, digits, 5);
        break;
      default:
        elements(name, slot, path, digits);
        break;
    }
  }

  private void elements(String name, int slot, int path, int digits) {
    int n = yard.state(slot, path);
    say("state", n);
    for (int i = 0; i < n && i < 8; i++) {
      steps(name, slot, path, digits, 8 + i);
    }
  }

  private void steps(String name, int slot, int path, int digits, int... on) {
    for (int digit : on) {
      if (digits < 6) {
        place(name, slot, path | digit << 4 * digits, digits + 1);
      }
    }
  }
}
