import java.util.ArrayList;
import java.util.List;

/** The document's yard in its plainest form, as trees of objects: what CellYard is held against. */
final class PlainYard {
  static final int NONE = -1;
  static final int FULL = -2;

  static final class Shape {
    final char kind;
    final int size;
    final int[] parts;

    Shape(char kind, int size, int... parts) {
      this.kind = kind;
      this.size = size;
      this.parts = parts;
    }
  }

  static final class Value {
    final int shape;
    long number;
    int variant;
    List<Value> parts = new ArrayList<>();

    Value(int shape) {
      this.shape = shape;
    }
  }

  static final class Frame {
    final List<Value> hand = new ArrayList<>();
    final Value[] slots = new Value[8];
  }

  final List<Shape> shapes = new ArrayList<>();
  final List<Frame> frames = new ArrayList<>();
  final List<Long> told = new ArrayList<>();
  int made = 0;

  PlainYard() {
    shapes.add(new Shape('I', 1));
    frames.add(new Frame());
  }

  // ---- shapes

  boolean known(int shape) {
    return 0 <= shape && shape < shapes.size();
  }

  private int size(int shape) {
    return shape == NONE ? 0 : shapes.get(shape).size;
  }

  private int tell(Shape shape) {
    if (shapes.size() == 24 || shape.size > 8) {
      return NONE;
    }
    shapes.add(shape);
    return shapes.size() - 1;
  }

  int record(boolean isTold, int a, int b, int c) {
    boolean one = known(a) && b == NONE && c == NONE;
    boolean two = known(a) && known(b) && c == NONE;
    boolean three = known(a) && known(b) && known(c);
    if (!one && !two && !three || isTold && a != 0) {
      return NONE;
    }
    int[] fields = one ? new int[] {a} : two ? new int[] {a, b} : new int[] {a, b, c};
    return tell(new Shape(isTold ? 'T' : 'R', size(a) + size(b) + size(c), fields));
  }

  int choice(int a, int b, int c) {
    int greatest = 0;
    for (int part : new int[] {a, b, c}) {
      if (part != NONE && !known(part)) {
        return NONE;
      }
      greatest = Math.max(greatest, size(part));
    }
    return tell(new Shape('C', 1 + greatest, a, b, c));
  }

  int box(int of) {
    return of == NONE || known(of) ? tell(new Shape('B', 1, of)) : NONE;
  }

  int tie(int box, int of) {
    if (!known(box) || !known(of) || shapes.get(box).kind != 'B' || shapes.get(box).parts[0] != NONE) {
      return NONE;
    }
    shapes.get(box).parts[0] = of;
    return 1;
  }

  int row(int of) {
    return known(of) ? tell(new Shape('W', 1, of)) : NONE;
  }

  int about(int shape, int what) {
    if (!known(shape)) {
      return NONE;
    }
    Shape s = shapes.get(shape);
    if (what == 0) {
      return "IRTCBW".indexOf(s.kind);
    }
    if (what == 1) {
      return s.size;
    }
    return what >= 2 && what < 2 + s.parts.length ? s.parts[what - 2] : NONE;
  }

  // ---- values in HAND

  Frame last() {
    return frames.get(frames.size() - 1);
  }

  List<Value> hand() {
    return last().hand;
  }

  Value top() {
    return hand().isEmpty() ? null : hand().get(hand().size() - 1);
  }

  private Value take() {
    return hand().remove(hand().size() - 1);
  }

  private int inHand() {
    int n = 0;
    for (Frame f : frames) {
      n += f.hand.size();
    }
    return n;
  }

  char kind(Value v) {
    return v == null ? '-' : shapes.get(v.shape).kind;
  }

  private boolean isOf(Value v, int shape) {
    return v != null && v.shape == shape;
  }

  int number(long v) {
    if (inHand() == 24) {
      return FULL;
    }
    Value value = new Value(0);
    value.number = v;
    hand().add(value);
    return 1;
  }

  /** The value of these parts, which come from the top of HAND; null if HAND does not end with them. */
  private Value fromHand(int shape, int... parts) {
    int start = hand().size() - parts.length;
    if (start < 0) {
      return null;
    }
    Value value = new Value(shape);
    for (int i = 0; i < parts.length; i++) {
      Value part = hand().get(start + i);
      if (part.shape != parts[i]) {
        return null;
      }
      value.parts.add(part);
    }
    return value;
  }

  private int replace(Value value) {
    if (value == null) {
      return NONE;
    }
    if (inHand() - value.parts.size() + 1 > 24) {
      return FULL;
    }
    if (kind(value) == 'B' && there('B') == 60 || kind(value) == 'W' && there('W') == 20) {
      return FULL;
    }
    for (int i = 0; i < value.parts.size(); i++) {
      take();
    }
    hand().add(value);
    return 1;
  }

  int make(int shape, int variant) {
    if (!known(shape)) {
      return NONE;
    }
    Shape s = shapes.get(shape);
    switch (s.kind) {
      case 'R':
        return replace(fromHand(shape, s.parts));
      case 'T':
        int answer = replace(fromHand(shape, s.parts));
        made += answer == 1 ? 1 : 0;
        return answer;
      case 'C':
        if (variant < 0 || variant > 2) {
          return NONE;
        }
        Value v = s.parts[variant] == NONE ? new Value(shape) : fromHand(shape, s.parts[variant]);
        if (v != null) {
          v.variant = variant;
        }
        return replace(v);
      case 'B':
        return s.parts[0] == NONE ? NONE : replace(fromHand(shape, s.parts[0]));
      default:
        return NONE;
    }
  }

  int gather(int shape, int n) {
    if (!known(shape) || shapes.get(shape).kind != 'W' || n < 0 || n > 8) {
      return NONE;
    }
    int[] parts = new int[n];
    java.util.Arrays.fill(parts, shapes.get(shape).parts[0]);
    return replace(fromHand(shape, parts));
  }

  int open() {
    if (kind(top()) != 'B') {
      return NONE;
    }
    hand().add(take().parts.get(0));
    return 1;
  }

  int apart() {
    if (kind(top()) != 'R' && kind(top()) != 'C') {
      return NONE;
    }
    if (inHand() - 1 + top().parts.size() > 24) {
      return FULL;
    }
    Value v = take();
    hand().addAll(v.parts);
    return v.parts.size();
  }

  private void dropped(Value v) {
    if (v == null) {
      return;
    }
    if (kind(v) == 'T') {
      told.add(v.parts.get(0).number);
    }
    for (Value part : v.parts) {
      dropped(part);
    }
  }

  int drop() {
    if (top() == null) {
      return NONE;
    }
    dropped(take());
    return 1;
  }

  // ---- slots and places

  private boolean isSlot(int slot) {
    return 0 <= slot && slot <= 7;
  }

  int store(int slot) {
    if (!isSlot(slot) || top() == null) {
      return NONE;
    }
    dropped(last().slots[slot]);
    last().slots[slot] = take();
    return 1;
  }

  int load(int slot) {
    if (!isSlot(slot) || last().slots[slot] == null) {
      return NONE;
    }
    if (inHand() == 24) {
      return FULL;
    }
    hand().add(last().slots[slot]);
    last().slots[slot] = null;
    return 1;
  }

  /** Which part of a value a digit goes to, or NONE. */
  private int partAt(Value v, int digit) {
    int i = NONE;
    switch (kind(v)) {
      case 'R':
      case 'T':
        i = digit <= 3 ? digit - 1 : NONE;
        break;
      case 'B':
        i = digit == 5 ? 0 : NONE;
        break;
      case 'C':
        i = digit == 6 ? 0 : NONE;
        break;
      case 'W':
        i = digit >= 8 ? digit - 8 : NONE;
        break;
      default:
        break;
    }
    return v != null && i >= 0 && i < v.parts.size() ? i : NONE;
  }

  Value at(int slot, int path) {
    if (!isSlot(slot) || path < 0 || path >= 1 << 24) {
      return null;
    }
    Value v = last().slots[slot];
    for (int rest = path; rest != 0 && v != null; rest /= 16) {
      int i = partAt(v, rest % 16);
      v = i == NONE ? null : v.parts.get(i);
    }
    return v;
  }

  /** Puts a value where another one is; the other one comes back. */
  private Value exchange(int slot, int path, Value in) {
    if (path == 0) {
      Value was = last().slots[slot];
      last().slots[slot] = in;
      return was;
    }
    int digits = Integer.toHexString(path).length();
    int lastDigit = path >> 4 * (digits - 1);
    Value holder = at(slot, path - (lastDigit << 4 * (digits - 1)));
    return holder.parts.set(partAt(holder, lastDigit), in);
  }

  int set(int slot, int path) {
    Value there = at(slot, path);
    if (there == null || !isOf(top(), there.shape)) {
      return NONE;
    }
    dropped(exchange(slot, path, take()));
    return 1;
  }

  int swap(int slot, int path) {
    Value there = at(slot, path);
    if (there == null || !isOf(top(), there.shape)) {
      return NONE;
    }
    hand().add(exchange(slot, path, take()));
    return 1;
  }

  int push(int slot, int path) {
    Value there = at(slot, path);
    if (kind(there) != 'W' || !isOf(top(), shapes.get(there.shape).parts[0])) {
      return NONE;
    }
    if (there.parts.size() == 8) {
      return FULL;
    }
    there.parts.add(take());
    return there.parts.size();
  }

  int pop(int slot, int path) {
    Value there = at(slot, path);
    if (kind(there) != 'W' || there.parts.isEmpty()) {
      return NONE;
    }
    if (inHand() == 24) {
      return FULL;
    }
    hand().add(there.parts.remove(there.parts.size() - 1));
    return there.parts.size();
  }

  // ---- frames

  int enter(int n) {
    if (n < 0 || n > 8 || n > hand().size()) {
      return NONE;
    }
    if (frames.size() == 12) {
      return FULL;
    }
    Frame next = new Frame();
    for (int i = n - 1; i >= 0; i--) {
      next.slots[i] = take();
    }
    frames.add(next);
    return frames.size();
  }

  private void end() {
    while (top() != null) {
      dropped(take());
    }
    for (int slot = 7; slot >= 0; slot--) {
      dropped(last().slots[slot]);
    }
    frames.remove(frames.size() - 1);
  }

  int leave(boolean answers) {
    if (frames.size() == 1 || answers && top() == null) {
      return NONE;
    }
    Value answer = answers ? take() : null;
    end();
    if (answers) {
      hand().add(answer);
    }
    return frames.size();
  }

  int fail() {
    int n = frames.size();
    while (!frames.isEmpty()) {
      end();
    }
    frames.add(new Frame());
    return n;
  }

  // ---- what is told

  int shape(int slot, int path) {
    Value v = at(slot, path);
    return v == null ? NONE : v.shape;
  }

  long look(int slot, int path) {
    Value v = at(slot, path);
    return kind(v) == 'I' ? v.number : 0;
  }

  int state(int slot, int path) {
    Value v = at(slot, path);
    return kind(v) == 'C' ? v.variant : kind(v) == 'W' ? v.parts.size() : NONE;
  }

  long out(int i) {
    return i >= 0 && i < Math.min(400, told.size()) ? told.get(i) : 0;
  }

  private int among(Value v, char kind) {
    if (v == null) {
      return 0;
    }
    int n = kind(v) == kind ? 1 : 0;
    for (Value part : v.parts) {
      n += among(part, kind);
    }
    return n;
  }

  private int there(char kind) {
    int n = 0;
    for (Frame f : frames) {
      for (Value v : f.hand) {
        n += among(v, kind);
      }
      for (Value v : f.slots) {
        n += among(v, kind);
      }
    }
    return n;
  }

  private int filled() {
    int n = 0;
    for (Frame f : frames) {
      for (Value v : f.slots) {
        n += v == null ? 0 : 1;
      }
    }
    return n;
  }

  int count(int what) {
    int[] all = {shapes.size(), frames.size(), inHand(), hand().size(), filled(), there('B'), there('W'),
        made, told.size(), Math.min(400, told.size())};
    return what >= 0 && what < all.length ? all[what] : NONE;
  }
}
