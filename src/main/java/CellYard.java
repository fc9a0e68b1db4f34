/**
 * A yard of values: shapes that are told, values of them that are made, put into one another,
 * taken apart and dropped, in frames that end, and by a failure that ends all; each told thing
 * that was made tells once that it is dropped, in its order.
 */
public final class CellYard {

    public static final int NONE = -1;
    public static final int FULL = -2;

    // The kinds, numbered as about(shape, 0) tells them.
    private static final int INT = 0;
    private static final int RECORD = 1;
    private static final int TOLD = 2;
    private static final int CHOICE = 3;
    private static final int BOX = 4;
    private static final int ROW = 5;

    private static final int INT_SHAPE = 0;

    private static final int MOST_SHAPES = 24;
    private static final int MOST_PARTS = 3;
    private static final int MOST_SIZE = 8;
    private static final int MOST_FRAMES = 12;
    private static final int MOST_SLOTS = 8;
    private static final int MOST_HAND = 24;
    private static final int MOST_BOXES = 60;
    private static final int MOST_ROWS = 20;
    private static final int MOST_ELEMENTS = 8;
    private static final int MOST_OUT = 400;

    private static final int MOST_DIGITS = 6;
    private static final int LAST_PATH = 0xFFFFFF;
    private static final int FIRST_FIELD_DIGIT = 1;
    private static final int BOX_DIGIT = 5;
    private static final int PART_DIGIT = 6;
    private static final int FIRST_ELEMENT_DIGIT = 8;

    // Every value in HAND, in a SLOT, in a BOX and every element of a ROW has MOST_SIZE cells.
    private static final int HAND_AT = 0;
    private static final int SLOTS_AT = HAND_AT + MOST_HAND * MOST_SIZE;
    private static final int BOXES_AT = SLOTS_AT + MOST_FRAMES * MOST_SLOTS * MOST_SIZE;
    private static final int ROWS_AT = BOXES_AT + MOST_BOXES * MOST_SIZE;
    private static final int ROW_CELLS = MOST_ELEMENTS * MOST_SIZE;
    private static final int ALL_CELLS = ROWS_AT + MOST_ROWS * ROW_CELLS;

    private final Shapes shapes;
    private final Ground ground;
    private final Frames frames;
    private final Dropping dropping;
    private int toldMade;
    private int foundAt;

    public CellYard() {
        shapes = new Shapes();
        ground = new Ground();
        frames = new Frames();
        dropping = new Dropping(shapes, ground);
        toldMade = 0;
        foundAt = NONE;
    }

    // ---- shapes

    public int record(boolean told, int a, int b, int c) {
        if (!shapes.has(a) || !shapes.hasOrNone(b) || !shapes.hasOrNone(c)) {
            return NONE;
        }
        if (b == NONE && c != NONE) {
            return NONE;
        }
        if (told && a != INT_SHAPE) {
            return NONE;
        }
        int size = shapes.sizeOf(a) + shapes.sizeOf(b) + shapes.sizeOf(c);
        return shapes.add(told ? TOLD : RECORD, size, a, b, c);
    }

    public int choice(int a, int b, int c) {
        if (!shapes.hasOrNone(a) || !shapes.hasOrNone(b) || !shapes.hasOrNone(c)) {
            return NONE;
        }
        int greatest = Math.max(shapes.sizeOf(a), Math.max(shapes.sizeOf(b), shapes.sizeOf(c)));
        return shapes.add(CHOICE, 1 + greatest, a, b, c);
    }

    public int box(int of) {
        return shapes.hasOrNone(of) ? shapes.add(BOX, 1, of, NONE, NONE) : NONE;
    }

    public int tie(int box, int of) {
        return shapes.tieLooseBox(box, of) ? 1 : NONE;
    }

    public int row(int of) {
        return shapes.has(of) ? shapes.add(ROW, 1, of, NONE, NONE) : NONE;
    }

    public int about(int shape, int what) {
        if (!shapes.has(shape)) {
            return NONE;
        }
        if (what == 0) {
            return shapes.kindOf(shape);
        }
        if (what == 1) {
            return shapes.sizeOf(shape);
        }
        return shapes.partOf(shape, what - 2);
    }

    // ---- values in HAND

    public int number(long v) {
        return layOneCell(INT_SHAPE, v);
    }

    public int make(int shape, int variant) {
        switch (shapes.kindOf(shape)) {
            case RECORD:
            case TOLD:
                return makeRecord(shape);
            case CHOICE:
                return makeChoice(shape, variant);
            case BOX:
                return makeBox(shape);
            default:
                return NONE;
        }
    }

    public int gather(int shape, int n) {
        if (shapes.kindOf(shape) != ROW || n < 0 || n > MOST_ELEMENTS) {
            return NONE;
        }
        if (!frames.handEndsWith(n, shapes.partOf(shape, 0))) {
            return NONE;
        }
        if (!frames.handHasRoomFor(1 - n) || ground.rowsThere() >= MOST_ROWS) {
            return FULL;
        }
        int id = ground.takeRow(n);
        int firstAt = handAt(frames.handCount() - n);
        ground.moveCells(firstAt, ground.elementAt(id, 0), n * MOST_SIZE);
        ground.write(firstAt, id);
        frames.takeOff(n);
        frames.layOn(shape);
        return 1;
    }

    public int open() {
        int shape = frames.topShape();
        if (shapes.kindOf(shape) != BOX) {
            return NONE;
        }
        int of = shapes.partOf(shape, 0);
        long id = ground.read(topAt());
        ground.moveCells(ground.boxAt(id), topAt(), shapes.sizeOf(of));
        ground.freeBox(id);
        replaceTopShape(of);
        return 1;
    }

    public int apart() {
        int shape = frames.topShape();
        switch (shapes.kindOf(shape)) {
            case RECORD:
                return takeRecordApart(shape);
            case CHOICE:
                return takeChoiceApart(shape);
            default:
                return NONE;
        }
    }

    public int drop() {
        int shape = frames.topShape();
        if (shape == NONE) {
            return NONE;
        }
        dropping.dropValue(shape, topAt());
        frames.takeOff(1);
        return 1;
    }

    // ---- slots and places

    public int store(int slot) {
        int shape = frames.topShape();
        if (!isSlot(slot) || shape == NONE) {
            return NONE;
        }
        int last = frames.lastFrame();
        dropping.dropValue(frames.slotShape(last, slot), slotAt(last, slot));
        ground.moveCells(topAt(), slotAt(last, slot), shapes.sizeOf(shape));
        frames.fillSlot(last, slot, shape);
        frames.takeOff(1);
        return 1;
    }

    public int load(int slot) {
        int last = frames.lastFrame();
        int shape = frames.slotShape(last, slot);
        if (shape == NONE) {
            return NONE;
        }
        if (!frames.handHasRoomFor(1)) {
            return FULL;
        }
        frames.layOn(shape);
        ground.moveCells(slotAt(last, slot), topAt(), shapes.sizeOf(shape));
        frames.fillSlot(last, slot, NONE);
        return 1;
    }

    public int set(int slot, int path) {
        int shape = seek(slot, path);
        if (shape == NONE || shape != frames.topShape()) {
            return NONE;
        }
        dropping.dropValue(shape, foundAt);
        ground.moveCells(topAt(), foundAt, shapes.sizeOf(shape));
        frames.takeOff(1);
        return 1;
    }

    public int swap(int slot, int path) {
        int shape = seek(slot, path);
        if (shape == NONE || shape != frames.topShape()) {
            return NONE;
        }
        ground.swapCells(topAt(), foundAt, shapes.sizeOf(shape));
        return 1;
    }

    public int push(int slot, int path) {
        int shape = seek(slot, path);
        int of = shapes.partOf(shape, 0);
        if (shapes.kindOf(shape) != ROW || of != frames.topShape()) {
            return NONE;
        }
        long id = ground.read(foundAt);
        int length = ground.lengthOf(id);
        if (length >= MOST_ELEMENTS) {
            return FULL;
        }
        ground.moveCells(topAt(), ground.elementAt(id, length), shapes.sizeOf(of));
        ground.setLength(id, length + 1);
        frames.takeOff(1);
        return length + 1;
    }

    public int pop(int slot, int path) {
        int shape = seek(slot, path);
        if (shapes.kindOf(shape) != ROW) {
            return NONE;
        }
        int of = shapes.partOf(shape, 0);
        long id = ground.read(foundAt);
        int left = ground.lengthOf(id) - 1;
        if (left < 0) {
            return NONE;
        }
        if (!frames.handHasRoomFor(1)) {
            return FULL;
        }
        frames.layOn(of);
        ground.moveCells(ground.elementAt(id, left), topAt(), shapes.sizeOf(of));
        ground.setLength(id, left);
        return left;
    }

    // ---- frames

    public int enter(int n) {
        if (n < 0 || n > MOST_SLOTS || n > frames.handOfLast()) {
            return NONE;
        }
        if (frames.frameCount() >= MOST_FRAMES) {
            return FULL;
        }
        int first = frames.handCount() - n;
        int next = frames.frameCount();
        for (int i = 0; i < n; i++) {
            int shape = frames.handShape(first + i);
            ground.moveCells(handAt(first + i), slotAt(next, i), shapes.sizeOf(shape));
            frames.fillSlot(next, i, shape);
        }
        frames.takeOff(n);
        frames.addFrame();
        return frames.frameCount();
    }

    public int leave(boolean answers) {
        int answer = answers ? frames.topShape() : NONE;
        if (frames.frameCount() <= 1 || answers && answer == NONE) {
            return NONE;
        }
        int answerAt = topAt();
        endLastFrame(answers ? 1 : 0);
        if (answers) {
            frames.layOn(answer);
            ground.moveCells(answerAt, topAt(), shapes.sizeOf(answer));
        }
        return frames.frameCount();
    }

    public int fail() {
        int there = frames.frameCount();
        for (int i = 0; i < there; i++) {
            endLastFrame(0);
        }
        frames.addFrame();
        return there;
    }

    // ---- what is told

    public int shape(int slot, int path) {
        return seek(slot, path);
    }

    public long look(int slot, int path) {
        return seek(slot, path) == INT_SHAPE ? ground.read(foundAt) : 0L;
    }

    public int state(int slot, int path) {
        switch (shapes.kindOf(seek(slot, path))) {
            case CHOICE:
                return (int) ground.read(foundAt);
            case ROW:
                return ground.lengthOf(ground.read(foundAt));
            default:
                return NONE;
        }
    }

    public long out(int i) {
        return dropping.toldAs(i);
    }

    public int count(int what) {
        switch (what) {
            case 0:
                return shapes.howMany();
            case 1:
                return frames.frameCount();
            case 2:
                return frames.handCount();
            case 3:
                return frames.handOfLast();
            case 4:
                return frames.filledSlots();
            case 5:
                return ground.boxesThere();
            case 6:
                return ground.rowsThere();
            case 7:
                return toldMade;
            case 8:
                return dropping.toldDropped();
            case 9:
                return dropping.outLength();
            default:
                return NONE;
        }
    }

    // ---- making and taking apart

    private int layOneCell(int shape, long cell) {
        if (!frames.handHasRoomFor(1)) {
            return FULL;
        }
        frames.layOn(shape);
        ground.write(topAt(), cell);
        return 1;
    }

    private int makeRecord(int shape) {
        int n = shapes.partsOf(shape);
        if (!handEndsWithFieldsOf(shape, n)) {
            return NONE;
        }
        int first = frames.handCount() - n;
        int to = handAt(first);
        for (int i = 0; i < n; i++) {
            int size = shapes.sizeOf(shapes.partOf(shape, i));
            ground.moveCells(handAt(first + i), to, size);
            to += size;
        }
        frames.takeOff(n);
        frames.layOn(shape);
        if (shapes.kindOf(shape) == TOLD) {
            toldMade++;
        }
        return 1;
    }

    private boolean handEndsWithFieldsOf(int shape, int n) {
        if (n > frames.handOfLast()) {
            return false;
        }
        int first = frames.handCount() - n;
        for (int i = 0; i < n; i++) {
            if (frames.handShape(first + i) != shapes.partOf(shape, i)) {
                return false;
            }
        }
        return true;
    }

    private int makeChoice(int shape, int variant) {
        if (variant < 0 || variant >= MOST_PARTS) {
            return NONE;
        }
        int part = shapes.partOf(shape, variant);
        if (part == NONE) {
            return layOneCell(shape, variant);
        }
        if (part != frames.topShape()) {
            return NONE;
        }
        ground.moveCells(topAt(), topAt() + 1, shapes.sizeOf(part));
        ground.write(topAt(), variant);
        replaceTopShape(shape);
        return 1;
    }

    private int makeBox(int shape) {
        int of = shapes.partOf(shape, 0);
        if (of == NONE || of != frames.topShape()) {
            return NONE;
        }
        if (ground.boxesThere() >= MOST_BOXES) {
            return FULL;
        }
        int id = ground.takeBox();
        ground.moveCells(topAt(), ground.boxAt(id), shapes.sizeOf(of));
        ground.write(topAt(), id);
        replaceTopShape(shape);
        return 1;
    }

    private int takeRecordApart(int shape) {
        int n = shapes.partsOf(shape);
        if (!frames.handHasRoomFor(n - 1)) {
            return FULL;
        }
        int first = frames.handCount() - 1;
        int from = handAt(first);
        frames.takeOff(1);
        for (int i = 0; i < n; i++) {
            int field = shapes.partOf(shape, i);
            ground.moveCells(from, handAt(first + i), shapes.sizeOf(field));
            from += shapes.sizeOf(field);
            frames.layOn(field);
        }
        return n;
    }

    private int takeChoiceApart(int shape) {
        int part = shapes.partOf(shape, (int) ground.read(topAt()));
        if (part == NONE) {
            frames.takeOff(1);
            return 0;
        }
        ground.moveCells(topAt() + 1, topAt(), shapes.sizeOf(part));
        replaceTopShape(part);
        return 1;
    }

    private void replaceTopShape(int shape) {
        frames.takeOff(1);
        frames.layOn(shape);
    }

    // ---- where things lie

    private static int handAt(int i) {
        return HAND_AT + i * MOST_SIZE;
    }

    private static int slotAt(int frame, int slot) {
        return SLOTS_AT + (frame * MOST_SLOTS + slot) * MOST_SIZE;
    }

    private static boolean isSlot(int slot) {
        return slot >= 0 && slot < MOST_SLOTS;
    }

    private int topAt() {
        return handAt(frames.handCount() - 1);
    }

    /** The SHAPE at a PLACE, whose first cell foundAt then tells; NONE if there is no such PLACE. */
    private int seek(int slot, int path) {
        if (path < 0 || path > LAST_PATH) {
            return NONE;
        }
        int shape = frames.slotShape(frames.lastFrame(), slot);
        foundAt = slotAt(frames.lastFrame(), slot);
        int rest = path;
        for (int i = 0; i < MOST_DIGITS && rest != 0; i++) {
            shape = step(shape, rest & 15);
            rest = rest >> 4;
        }
        return shape;
    }

    /** Moves foundAt on by one digit; no kind has a step for 0, so nothing may stand behind one. */
    private int step(int shape, int digit) {
        switch (shapes.kindOf(shape)) {
            case RECORD:
            case TOLD:
                return stepToField(shape, digit - FIRST_FIELD_DIGIT);
            case CHOICE:
                return digit == PART_DIGIT ? stepToPart(shape) : NONE;
            case BOX:
                return digit == BOX_DIGIT ? stepIntoBox(shape) : NONE;
            case ROW:
                return stepToElement(shape, digit - FIRST_ELEMENT_DIGIT);
            default:
                return NONE;
        }
    }

    private int stepToField(int shape, int field) {
        foundAt += shapes.offsetOf(shape, field);
        return shapes.partOf(shape, field);
    }

    private int stepToPart(int shape) {
        int part = shapes.partOf(shape, (int) ground.read(foundAt));
        foundAt++;
        return part;
    }

    private int stepIntoBox(int shape) {
        foundAt = ground.boxAt(ground.read(foundAt));
        return shapes.partOf(shape, 0);
    }

    private int stepToElement(int shape, int element) {
        long id = ground.read(foundAt);
        if (element < 0 || element >= ground.lengthOf(id)) {
            return NONE;
        }
        foundAt = ground.elementAt(id, element);
        return shapes.partOf(shape, 0);
    }

    // ---- the end of a frame

    /** Drops the last FRAME's part of HAND, but for so many on top, then its SLOTS; it is gone then. */
    private void endLastFrame(int kept) {
        int last = frames.lastFrame();
        int start = frames.handCount() - frames.handOfLast();
        for (int i = frames.handCount() - 1 - kept; i >= start; i--) {
            dropping.dropValue(frames.handShape(i), handAt(i));
        }
        for (int slot = MOST_SLOTS - 1; slot >= 0; slot--) {
            dropping.dropValue(frames.slotShape(last, slot), slotAt(last, slot));
            frames.fillSlot(last, slot, NONE);
        }
        frames.takeOff(frames.handOfLast());
        frames.removeFrame();
    }

    /** The SHAPES that were told. What is no SHAPE has kind NONE, SIZE 0 and no parts. */
    private static final class Shapes {
        private final int[] kinds = new int[MOST_SHAPES];
        private final int[] sizes = new int[MOST_SHAPES];
        private final int[] parts = new int[MOST_SHAPES * MOST_PARTS];
        private int known = 0;

        Shapes() {
            add(INT, 1, NONE, NONE, NONE);
        }

        int add(int kind, int size, int a, int b, int c) {
            if (known >= MOST_SHAPES || size > MOST_SIZE) {
                return NONE;
            }
            kinds[known] = kind;
            sizes[known] = size;
            parts[known * MOST_PARTS] = a;
            parts[known * MOST_PARTS + 1] = b;
            parts[known * MOST_PARTS + 2] = c;
            known++;
            return known - 1;
        }

        boolean tieLooseBox(int shape, int of) {
            if (kindOf(shape) != BOX || partOf(shape, 0) != NONE || !has(of)) {
                return false;
            }
            parts[shape * MOST_PARTS] = of;
            return true;
        }

        int howMany() {
            return known;
        }

        boolean has(int shape) {
            return shape >= 0 && shape < known;
        }

        boolean hasOrNone(int shape) {
            return shape == NONE || has(shape);
        }

        int kindOf(int shape) {
            return has(shape) ? kinds[shape] : NONE;
        }

        int sizeOf(int shape) {
            return has(shape) ? sizes[shape] : 0;
        }

        int partOf(int shape, int i) {
            if (!has(shape) || i < 0 || i >= MOST_PARTS) {
                return NONE;
            }
            return parts[shape * MOST_PARTS + i];
        }

        int partsOf(int shape) {
            int n = 0;
            for (int i = 0; i < MOST_PARTS; i++) {
                if (partOf(shape, i) != NONE) {
                    n++;
                }
            }
            return n;
        }

        /** How many cells of a RECORD lie ahead of a field. */
        int offsetOf(int shape, int field) {
            int offset = 0;
            for (int i = 0; i < field && i < MOST_PARTS; i++) {
                offset += sizeOf(partOf(shape, i));
            }
            return offset;
        }
    }

    /**
     * The cells of all values, in one array, so that a single number tells where a value lies. A
     * RECORD's fields lie behind one another, a CHOICE's part behind its variant; a BOX's or ROW's
     * cell has its number, under which what is in it lies here too.
     */
    private static final class Ground {
        private final long[] cells = new long[ALL_CELLS];
        private final boolean[] boxTaken = new boolean[MOST_BOXES];
        private final boolean[] rowTaken = new boolean[MOST_ROWS];
        private final int[] rowLengths = new int[MOST_ROWS];
        private int boxes = 0;
        private int rows = 0;

        long read(int at) {
            return areCells(at, 1) ? cells[at] : 0L;
        }

        void write(int at, long cell) {
            if (areCells(at, 1)) {
                cells[at] = cell;
            }
        }

        void moveCells(int from, int to, int n) {
            if (areCells(from, n) && areCells(to, n)) {
                System.arraycopy(cells, from, cells, to, n);
            }
        }

        void swapCells(int one, int other, int n) {
            if (n > MOST_SIZE || !areCells(one, n) || !areCells(other, n)) {
                return;
            }
            for (int i = 0; i < n; i++) {
                long cell = cells[one + i];
                cells[one + i] = cells[other + i];
                cells[other + i] = cell;
            }
        }

        private static boolean areCells(int at, int n) {
            return at >= 0 && n >= 0 && n <= ALL_CELLS && at <= ALL_CELLS - n;
        }

        int boxesThere() {
            return boxes;
        }

        int rowsThere() {
            return rows;
        }

        int takeBox() {
            int id = firstFree(boxTaken);
            if (id != NONE) {
                boxTaken[id] = true;
                boxes++;
            }
            return id;
        }

        int takeRow(int length) {
            int id = firstFree(rowTaken);
            if (id != NONE) {
                rowTaken[id] = true;
                rowLengths[id] = length;
                rows++;
            }
            return id;
        }

        private static int firstFree(boolean[] taken) {
            for (int i = 0; i < taken.length; i++) {
                if (!taken[i]) {
                    return i;
                }
            }
            return NONE;
        }

        void freeBox(long id) {
            if (isBox(id) && boxTaken[(int) id]) {
                boxTaken[(int) id] = false;
                boxes--;
            }
        }

        void freeRow(long id) {
            if (isRow(id) && rowTaken[(int) id]) {
                rowTaken[(int) id] = false;
                rows--;
            }
        }

        private static boolean isBox(long id) {
            return id >= 0 && id < MOST_BOXES;
        }

        private static boolean isRow(long id) {
            return id >= 0 && id < MOST_ROWS;
        }

        int boxAt(long id) {
            return isBox(id) ? BOXES_AT + (int) id * MOST_SIZE : NONE;
        }

        int elementAt(long id, int element) {
            return isRow(id) ? ROWS_AT + (int) id * ROW_CELLS + element * MOST_SIZE : NONE;
        }

        int lengthOf(long id) {
            return isRow(id) ? rowLengths[(int) id] : 0;
        }

        void setLength(long id, int length) {
            if (isRow(id)) {
                rowLengths[(int) id] = length;
            }
        }
    }

    /** What SHAPES lie in HAND and in the SLOTS of each FRAME, and whose part of HAND begins where. */
    private static final class Frames {
        private final int[] handShapes = new int[MOST_HAND];
        private final int[] handStarts = new int[MOST_FRAMES];
        private final int[] slotShapes = new int[MOST_FRAMES * MOST_SLOTS];
        private int inHand = 0;
        private int there = 1;

        Frames() {
            for (int i = 0; i < slotShapes.length; i++) {
                slotShapes[i] = NONE;
            }
        }

        int frameCount() {
            return there;
        }

        int lastFrame() {
            return there - 1;
        }

        void addFrame() {
            if (there < MOST_FRAMES) {
                handStarts[there] = inHand;
                there++;
            }
        }

        void removeFrame() {
            if (there > 0) {
                there--;
            }
        }

        int handCount() {
            return inHand;
        }

        int handOfLast() {
            return there > 0 ? inHand - handStarts[there - 1] : 0;
        }

        boolean handHasRoomFor(int more) {
            return inHand + more <= MOST_HAND;
        }

        int handShape(int i) {
            return i >= 0 && i < inHand ? handShapes[i] : NONE;
        }

        /** NONE if the last FRAME's part of HAND has nothing. */
        int topShape() {
            return handOfLast() > 0 ? handShape(inHand - 1) : NONE;
        }

        boolean handEndsWith(int n, int shape) {
            if (n > handOfLast()) {
                return false;
            }
            for (int i = inHand - n; i < inHand; i++) {
                if (handShape(i) != shape) {
                    return false;
                }
            }
            return true;
        }

        void layOn(int shape) {
            if (inHand < MOST_HAND) {
                handShapes[inHand] = shape;
                inHand++;
            }
        }

        void takeOff(int n) {
            if (n >= 0 && n <= inHand) {
                inHand -= n;
            }
        }

        /** NONE if there is no such SLOT, or no value in it. */
        int slotShape(int frame, int slot) {
            return hasSlot(frame, slot) ? slotShapes[frame * MOST_SLOTS + slot] : NONE;
        }

        void fillSlot(int frame, int slot, int shape) {
            if (hasSlot(frame, slot)) {
                slotShapes[frame * MOST_SLOTS + slot] = shape;
            }
        }

        private static boolean hasSlot(int frame, int slot) {
            return frame >= 0 && frame < MOST_FRAMES && isSlot(slot);
        }

        int filledSlots() {
            int filled = 0;
            for (int i = 0; i < slotShapes.length; i++) {
                if (slotShapes[i] != NONE) {
                    filled++;
                }
            }
            return filled;
        }
    }

    /** DROPS values and keeps OUT. Values may nest hundreds deep, so what waits is kept in a pile. */
    private static final class Dropping {
        // What waits lies in the value itself and in the BOXES and ROWS around what is dropped
        // right now, with a cell at least for each; of a ROW, whole elements wait too.
        private static final int MOST_WAITING =
                MOST_SIZE + MOST_BOXES * MOST_SIZE + MOST_ROWS * (MOST_SIZE + MOST_ELEMENTS);
        private static final int MOST_STEPS = 1000000;

        private final Shapes shapes;
        private final Ground ground;
        // Where a value lies and its SHAPE, as one number.
        private final int[] waiting = new int[MOST_WAITING];
        private final long[] outs = new long[MOST_OUT];
        private int waits = 0;
        private int outCount = 0;
        private int dropped = 0;

        Dropping(Shapes shapes, Ground ground) {
            this.shapes = shapes;
            this.ground = ground;
        }

        int toldDropped() {
            return dropped;
        }

        int outLength() {
            return outCount;
        }

        long toldAs(int i) {
            return i >= 0 && i < outCount ? outs[i] : 0L;
        }

        void dropValue(int shape, int at) {
            waits = 0;
            await(shape, at);
            for (int i = 0; waits > 0 && i < MOST_STEPS; i++) {
                waits--;
                dropOne(waiting[waits] % MOST_SHAPES, waiting[waits] / MOST_SHAPES);
            }
        }

        /** What is awaited last is dropped first. */
        private void await(int shape, int at) {
            if (shape >= 0 && at >= 0 && waits < MOST_WAITING) {
                waiting[waits] = at * MOST_SHAPES + shape;
                waits++;
            }
        }

        private void dropOne(int shape, int at) {
            switch (shapes.kindOf(shape)) {
                case TOLD:
                    tell(ground.read(at));
                    awaitFields(shape, at);
                    break;
                case RECORD:
                    awaitFields(shape, at);
                    break;
                case CHOICE:
                    await(shapes.partOf(shape, (int) ground.read(at)), at + 1);
                    break;
                case BOX:
                    awaitBoxed(shape, ground.read(at));
                    break;
                case ROW:
                    awaitElements(shape, ground.read(at));
                    break;
                default:
                    break;
            }
        }

        private void tell(long first) {
            dropped++;
            if (outCount < MOST_OUT) {
                outs[outCount] = first;
                outCount++;
            }
        }

        private void awaitFields(int shape, int at) {
            int fieldAt = at + shapes.sizeOf(shape);
            for (int i = MOST_PARTS - 1; i >= 0; i--) {
                int field = shapes.partOf(shape, i);
                fieldAt -= shapes.sizeOf(field);
                await(field, fieldAt);
            }
        }

        // Freed ahead of what is in it: no drop takes a place, so nothing is overwritten.
        private void awaitBoxed(int shape, long id) {
            ground.freeBox(id);
            await(shapes.partOf(shape, 0), ground.boxAt(id));
        }

        private void awaitElements(int shape, long id) {
            ground.freeRow(id);
            for (int i = ground.lengthOf(id) - 1; i >= 0; i--) {
                await(shapes.partOf(shape, 0), ground.elementAt(id, i));
            }
        }
    }
}
