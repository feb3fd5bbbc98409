/** A maker and a taker of patches; the document's words in capitals are used in the comments. */
public final class TailPatches {
    public static final int NONE = -1;

    private static final int FILE_ROOM = 64;
    private static final int PATCH_ROOM = 300;
    private static final int TAPE_ROOM = 400;
    private static final int SLOTS = 3;
    private static final int TERMS = 5;
    private static final int KEPT = 16;
    private static final int REASONS = 6;
    // Each PART is three BYTES at least, so no PATCH that can be read has as many as these.
    private static final int PARTS_ROOM = 100;
    private static final int PAGE = 8;

    private static final int NO_NUMBER = -1;
    private static final int NO_PATCH = -2;
    private static final int HAS_FLAW = -3;
    private static final int CANNOT_BE = -4;
    private static final int NO_ROOM = -5;
    private static final int NOT_READ = -6;

    private static final int LEAST = 0;
    private static final int SLACK = 1;
    private static final int GAIN = 2;
    private static final int LOSS = 3;
    private static final int FRAMES = 4;
    private static final int[] TERM_LOWEST = {2, 0, 1, 0, 1};
    private static final int[] TERM_HIGHEST = {9, 9, 9, 9, 6};
    private static final int[] TERM_AT_FIRST = {3, 1, 1, 1, 2};

    private static final int ACT_FILE = 0;
    private static final int ACT_BRING = 1;
    private static final int ACT_BAR = 2;
    private static final int ACT_RECIPE = 3;
    private static final int ACT_SET = 4;
    private static final int ACT_CUT = 5;
    private static final int ACT_PUT = 6;
    private static final int ACT_MOVE = 7;
    private static final int ACT_MAKE = 8;
    private static final int ACT_JOIN = 9;
    private static final int ACT_TURN = 10;
    private static final int ACT_APPLY = 11;
    private static final int ACT_BEGIN = 12;
    private static final int ACT_WRITE = 13;
    private static final int ACT_SPOIL = 14;
    private static final int ACT_SEAL = 15;
    private static final int ACT_DROP = 16;
    private static final int ACT_SWAP = 17;
    private static final int ACT_ADVANCE = 18;

    private final State now;
    private final State[] past;
    private final int[] pastAct;
    private int pastFirst;
    private int pastCount;
    private final Row tape;
    private final int[] terms;
    private final int[] refused;
    private int latestStatus;
    private int latestFlaw;
    private final Tails tails;
    private final Anchors anchors;
    private final Packer packer;
    private final Reader reader;
    private final Copies copies;
    private final Recipe recipes;
    private final Lister lister;
    private final Paper paper;
    private final Origins origins;
    private final Row spare;

    public TailPatches() {
        now = new State();
        past = new State[KEPT];
        for (int i = 0; i < KEPT; i++) {
            past[i] = new State();
        }
        pastAct = new int[KEPT];
        pastFirst = 0;
        pastCount = 0;
        tape = new Row(TAPE_ROOM);
        terms = new int[TERMS];
        for (int i = 0; i < TERMS; i++) {
            terms[i] = TERM_AT_FIRST[i];
        }
        refused = new int[REASONS];
        latestStatus = 0;
        latestFlaw = 0;
        tails = new Tails();
        anchors = new Anchors();
        packer = new Packer();
        reader = new Reader();
        copies = new Copies();
        recipes = new Recipe();
        lister = new Lister();
        paper = new Paper();
        origins = new Origins();
        spare = new Row(FILE_ROOM);
    }

    // ---- what there is ----

    public int size(int file) {
        return file < 0 || file > 2 ? NONE : now.fileAt(file).n;
    }

    public int byteOf(int file, int i) {
        return file < 0 || file > 2 ? NONE : now.fileAt(file).get(i);
    }

    public int length(int slot) {
        return isFull(slot) ? now.slots[slot].n : NONE;
    }

    public int patch(int slot, int index) {
        return isFull(slot) ? now.slots[slot].get(index) : NONE;
    }

    public int terms(int what, int value) {
        if (what < 0 || what >= TERMS) {
            return refuse(NO_NUMBER);
        }
        if (value < TERM_LOWEST[what] || value > TERM_HIGHEST[what]) {
            return refuse(NO_NUMBER);
        }
        int was = terms[what];
        terms[what] = value;
        return accept(was);
    }

    // ---- the TAPE ----

    public int feed(int a, int b, int c, int d, int e) {
        if (tape.n + 20 > TAPE_ROOM) {
            return NONE;
        }
        feedFour(a);
        feedFour(b);
        feedFour(c);
        feedFour(d);
        feedFour(e);
        return tape.n;
    }

    private void feedFour(int number) {
        for (int shift = 24; shift >= 0; shift -= 8) {
            tape.add((number >> shift) & 255);
        }
    }

    public int end(int n) {
        if (n < 0 || n > tape.n) {
            return NONE;
        }
        tape.n = n;
        return n;
    }

    public int file(int file) {
        if (file < 0 || file > 1) {
            return refuse(NO_NUMBER);
        }
        if (now.runs()) {
            return refuse(CANNOT_BE);
        }
        if (tape.n > FILE_ROOM) {
            return refuse(NO_ROOM);
        }
        keep(ACT_FILE);
        now.fileAt(file).copy(tape);
        tape.n = 0;
        return accept(now.fileAt(file).n);
    }

    public int bring(int slot) {
        if (!isSlot(slot)) {
            return refuse(NO_NUMBER);
        }
        if (tape.n == 0) {
            return refuse(CANNOT_BE);
        }
        if (tape.n > PATCH_ROOM) {
            return refuse(NO_ROOM);
        }
        keep(ACT_BRING);
        now.slots[slot].copy(tape);
        tape.n = 0;
        return accept(now.slots[slot].n);
    }

    public int bar(int place, int yes) {
        if (place < 0 || place >= FILE_ROOM || yes < 0 || yes > 1) {
            return refuse(NO_NUMBER);
        }
        boolean wanted = yes == 1;
        if (now.barred[place] == wanted) {
            return refuse(CANNOT_BE);
        }
        keep(ACT_BAR);
        now.barred[place] = wanted;
        return accept(now.countBarred());
    }

    public int recipe(int slot) {
        if (!isSlot(slot)) {
            return refuse(NO_NUMBER);
        }
        boolean readable = recipes.readAll(tape);
        tape.n = 0;
        if (!readable) {
            return refuse(NOT_READ);
        }
        int reason = recipes.run(now.old, origins);
        if (reason != 0) {
            return refuse(reason);
        }
        origins.comeOut(now.old, spare);
        packer.pack(origins, now.old.n, now.old.checkAll(), spare.checkAll());
        return keepMade(ACT_RECIPE, slot);
    }

    public int fault() {
        return recipes.fault;
    }

    public int stopped() {
        return recipes.stopped;
    }

    // ---- acts on NEW ----

    public int set(int spot, int value) {
        if (spot < 0 || spot >= now.fresh.n || !isByte(value)) {
            return refuse(NO_NUMBER);
        }
        int was = now.fresh.get(spot);
        if (was == value) {
            return refuse(CANNOT_BE);
        }
        keep(ACT_SET);
        now.fresh.change(spot, value);
        return accept(was);
    }

    public int cut(int spot, int n) {
        if (!areSpots(spot, n)) {
            return refuse(NO_NUMBER);
        }
        keep(ACT_CUT);
        now.fresh.takeOut(spot, n);
        return accept(now.fresh.n);
    }

    public int put(int spot, int value) {
        if (spot < 0 || spot > now.fresh.n || !isByte(value)) {
            return refuse(NO_NUMBER);
        }
        if (now.fresh.n >= FILE_ROOM) {
            return refuse(NO_ROOM);
        }
        keep(ACT_PUT);
        now.fresh.putIn(spot, value);
        return accept(now.fresh.n);
    }

    public int move(int spot, int n, int to) {
        if (!areSpots(spot, n) || to < 0 || to > now.fresh.n - n) {
            return refuse(NO_NUMBER);
        }
        if (to == spot) {
            return refuse(CANNOT_BE);
        }
        keep(ACT_MOVE);
        spare.copy(now.fresh);
        now.fresh.takeOut(spot, n);
        for (int i = 0; i < n; i++) {
            now.fresh.putIn(to + i, spare.get(spot + i));
        }
        return accept(now.fresh.n - spare.countAlike(now.fresh));
    }

    // ---- making, joining, turning ----

    public int make(int slot) {
        if (!isSlot(slot)) {
            return refuse(NO_NUMBER);
        }
        findAnchors();
        packAnchors();
        return keepMade(ACT_MAKE, slot);
    }

    public int join(int one, int other, int to) {
        if (!isSlot(one) || !isSlot(other) || !isSlot(to)) {
            return refuse(NO_NUMBER);
        }
        if (!isFull(one) || !isFull(other)) {
            return refuse(NO_PATCH);
        }
        latestFlaw = reader.read(now.slots[one], now.old, false);
        if (latestFlaw != 0) {
            return refuse(HAS_FLAW);
        }
        origins.copy(reader.origins);
        int oldSize = reader.oldSize;
        int oldCheck = reader.oldCheck;
        int middleCheck = reader.newCheck;
        latestFlaw = reader.read(now.slots[other], now.old, false);
        if (latestFlaw != 0) {
            return refuse(HAS_FLAW);
        }
        if (reader.oldSize != origins.n || reader.oldCheck != middleCheck) {
            return refuse(CANNOT_BE);
        }
        reader.origins.follow(origins);
        packer.pack(reader.origins, oldSize, oldCheck, reader.newCheck);
        return keepMade(ACT_JOIN, to);
    }

    public int turn(int slot, int to) {
        if (!isSlot(slot) || !isSlot(to)) {
            return refuse(NO_NUMBER);
        }
        int reason = readForAct(slot);
        if (reason != 0) {
            return refuse(reason);
        }
        origins.turnRound(reader.origins, now.old, reader.out);
        packer.pack(origins, reader.out.n, reader.out.checkAll(), now.old.checkAll());
        return keepMade(ACT_TURN, to);
    }

    // ---- taking ----

    public int apply(int slot) {
        int reason = readForAct(slot);
        if (reason != 0) {
            return refuse(reason);
        }
        keep(ACT_APPLY);
        now.out.copy(reader.out);
        copies.load(reader, terms[FRAMES]);
        return accept(now.out.n);
    }

    public int flaw() {
        return latestFlaw;
    }

    public int loaded(int what) {
        return what == 0 ? copies.loads : what == 1 ? copies.mostHeld : NONE;
    }

    public int begin(int slot) {
        int reason = readForAct(slot);
        if (reason != 0) {
            return refuse(reason);
        }
        if (now.runs()) {
            return refuse(CANNOT_BE);
        }
        keep(ACT_BEGIN);
        copies.findOrder(reader);
        copies.planRun(reader, now);
        now.startRun(reader.newSize);
        return accept(now.runSize);
    }

    public int write(int n) {
        if (n < 1) {
            return refuse(NO_NUMBER);
        }
        if (!now.runs()) {
            return refuse(CANNOT_BE);
        }
        keep(ACT_WRITE);
        now.goOn(n);
        return accept(now.runSize - now.runDone);
    }

    public int left() {
        return now.runs() ? now.runSize - now.runDone : NONE;
    }

    // ---- acts on SLOTS and FILES ----

    public int spoil(int slot, int index, int value) {
        if (!isSlot(slot) || index < 0 || index >= PATCH_ROOM || !isByte(value)) {
            return refuse(NO_NUMBER);
        }
        if (!isFull(slot)) {
            return refuse(NO_PATCH);
        }
        int was = now.slots[slot].get(index);
        if (was == NONE || was == value) {
            return refuse(CANNOT_BE);
        }
        keep(ACT_SPOIL);
        now.slots[slot].change(index, value);
        return accept(was);
    }

    public int seal(int slot) {
        if (!isSlot(slot)) {
            return refuse(NO_NUMBER);
        }
        if (!isFull(slot)) {
            return refuse(NO_PATCH);
        }
        Row row = now.slots[slot];
        if (row.n < 2) {
            return refuse(CANNOT_BE);
        }
        keep(ACT_SEAL);
        int front = row.n - 2;
        int check = row.check(front);
        boolean was = row.get(front) == check / 256 && row.get(front + 1) == check % 256;
        row.change(front, check / 256);
        row.change(front + 1, check % 256);
        return accept(was ? 0 : 1);
    }

    public int drop(int slot) {
        if (!isSlot(slot)) {
            return refuse(NO_NUMBER);
        }
        if (!isFull(slot)) {
            return refuse(NO_PATCH);
        }
        keep(ACT_DROP);
        int had = now.slots[slot].n;
        now.slots[slot].n = 0;
        return accept(had);
    }

    public int swap() {
        if (now.runs()) {
            return refuse(CANNOT_BE);
        }
        keep(ACT_SWAP);
        spare.copy(now.old);
        now.old.copy(now.fresh);
        now.fresh.copy(spare);
        return accept(now.old.n);
    }

    public int advance() {
        if (now.runs()) {
            return refuse(CANNOT_BE);
        }
        keep(ACT_ADVANCE);
        now.old.copy(now.out);
        return accept(now.old.n);
    }

    public int undo() {
        if (pastCount <= 0) {
            return refuse(CANNOT_BE);
        }
        pastCount--;
        int at = (pastFirst + pastCount) % KEPT;
        now.copy(past[at]);
        return accept(pastAct[at]);
    }

    // ---- what is told of the TAILS and of a PATCH made now ----

    public int sorted(int k, int what) {
        tails.sort(now);
        if (k < 0 || k >= tails.n) {
            return NONE;
        }
        int place = tails.places[k];
        switch (what) {
            case 0:
                return place;
            case 1:
                return tails.sizeOf(now, place);
            case 2:
                return tails.alikeAhead(now, k);
            default:
                return NONE;
        }
    }

    public int kinds(int n) {
        if (n < 1 || n > FILE_ROOM) {
            return NONE;
        }
        tails.sort(now);
        return tails.countKinds(now, n);
    }

    public int repeated(int what) {
        if (what < 0 || what > 1) {
            return NONE;
        }
        tails.sort(now);
        int most = tails.longestRepeated(now);
        if (what == 0) {
            return most;
        }
        return most == 0 ? NONE : tails.lowestRepeated(now, most);
    }

    public int match(int spot, int what) {
        if (spot < 0 || spot >= now.fresh.n) {
            return NONE;
        }
        tails.matchAll(now);
        switch (what) {
            case 0:
                return tails.longest[spot];
            case 1:
                return tails.where[spot];
            case 2:
                return tails.times[spot];
            default:
                return NONE;
        }
    }

    public int anchor(int i, int what) {
        findAnchors();
        if (i < 0 || i >= anchors.n) {
            return NONE;
        }
        switch (what) {
            case 0:
                return anchors.spots[i];
            case 1:
                return anchors.places[i];
            case 2:
                return anchors.sizes[i];
            case 3:
                return anchors.forward[i];
            case 4:
                return anchors.back[i];
            default:
                return NONE;
        }
    }

    public int origin(int spot, int what) {
        if (spot < 0 || spot >= now.fresh.n) {
            return NONE;
        }
        findAnchors();
        if (what == 0) {
            return anchors.origins.placeAt(spot);
        }
        return what == 1 ? anchors.origins.valueAt(spot) : NONE;
    }

    // ---- what is told of a PATCH ----

    public int parts(int slot) {
        return isSound(slot) ? reader.parts : NONE;
    }

    public int part(int slot, int i, int what) {
        if (!isSound(slot) || i < 0 || i >= reader.parts || i >= PARTS_ROOM) {
            return NONE;
        }
        switch (what) {
            case 0:
                return reader.copy[i] == 0 ? NONE : reader.place[i];
            case 1:
                return reader.copy[i];
            case 2:
                return reader.extra[i];
            default:
                return NONE;
        }
    }

    public int way(int slot, int what) {
        if (what < 0 || what > 1 || !isSound(slot)) {
            return NONE;
        }
        return reader.ways[what];
    }

    public int order(int slot, int i) {
        if (!isSound(slot)) {
            return NONE;
        }
        copies.findOrder(reader);
        return i < 0 || i >= copies.n ? NONE : copies.inOrder[i];
    }

    public int dropped(int slot, int what) {
        if (what < 0 || what > 1 || !isSound(slot)) {
            return NONE;
        }
        copies.findOrder(reader);
        return what == 0 ? copies.droppedCopies : copies.droppedSpots;
    }

    public int flawOf(int slot) {
        return isFull(slot) ? reader.read(now.slots[slot], now.old, true) : NONE;
    }

    // ---- what is reckoned on paper ----

    public int cheapest(int what) {
        if (what == 0) {
            return paper.leastCost(now);
        }
        if (what != 1) {
            return NONE;
        }
        findAnchors();
        return paper.costOf(anchors.origins);
    }

    public int apart() {
        return paper.distance(now.old, now.fresh);
    }

    public int stay(int slot) {
        return isSound(slot) ? paper.mostInOrder(reader) : NONE;
    }

    public int save(int slot, int what) {
        if (what < 0 || what > 2 || !isFull(slot)) {
            return NONE;
        }
        paper.findSaves(now.slots[slot], now.old, reader);
        return what == 0 ? paper.saves : what == 1 ? paper.saveIndex : paper.saveByte;
    }

    public int listed(int slot) {
        if (!isSound(slot)) {
            return NONE;
        }
        lister.list(reader);
        return lister.text.n;
    }

    public int listing(int slot, int i) {
        if (!isSound(slot)) {
            return NONE;
        }
        lister.list(reader);
        return lister.text.get(i);
    }

    public int best(int what) {
        if (what < 0 || what > 1) {
            return NONE;
        }
        tails.matchAll(now);
        int bestLeast = NONE;
        int fewest = 0;
        for (int least = TERM_LOWEST[LEAST]; least <= TERM_HIGHEST[LEAST]; least++) {
            anchors.find(now, tails, terms, least);
            int bytes = packAnchors();
            if (bestLeast == NONE || bytes < fewest) {
                bestLeast = least;
                fewest = bytes;
            }
        }
        return what == 0 ? bestLeast : fewest;
    }

    public int count(int what) {
        if (what >= 7 && what < 7 + REASONS) {
            return refused[what - 7];
        }
        if (what >= 13 && what < 13 + TERMS) {
            return terms[what - 13];
        }
        switch (what) {
            case 0:
                findAnchors();
                return anchors.n;
            case 1:
                findAnchors();
                return anchors.origins.countParts();
            case 2:
                findAnchors();
                return packAnchors();
            case 3:
                return now.countBarred();
            case 4:
                return now.fresh.countAlike(now.old);
            case 5:
                return pastCount;
            case 6:
                return tape.n;
            default:
                return NONE;
        }
    }

    public int status() {
        return latestStatus;
    }

    // ---- what the calls have in common ----

    private static boolean isSlot(int slot) {
        return slot >= 0 && slot < SLOTS;
    }

    private static boolean isByte(int value) {
        return value >= 0 && value <= 255;
    }

    private boolean areSpots(int spot, int n) {
        return spot >= 0 && n >= 1 && spot < now.fresh.n && n <= now.fresh.n - spot;
    }

    // No act makes a PATCH without BYTES, so a row without any tells that there is none.
    private boolean isFull(int slot) {
        return isSlot(slot) && now.slots[slot].n > 0;
    }

    private boolean isSound(int slot) {
        return isFull(slot) && reader.read(now.slots[slot], now.old, false) == 0;
    }

    private int refuse(int reason) {
        latestStatus = reason;
        int at = -1 - reason;
        if (at >= 0 && at < REASONS) {
            refused[at]++;
        }
        return reason;
    }

    private int accept(int answer) {
        latestStatus = 0;
        return answer;
    }

    private void keep(int act) {
        if (pastCount == KEPT) {
            pastFirst = (pastFirst + 1) % KEPT;
            pastCount--;
        }
        int at = (pastFirst + pastCount) % KEPT;
        past[at].copy(now);
        pastAct[at] = act;
        pastCount++;
    }

    private int keepMade(int act, int slot) {
        if (!isSlot(slot)) {
            return refuse(NO_NUMBER);
        }
        keep(act);
        now.slots[slot].copy(packer.made);
        return accept(packer.made.n);
    }

    private int readForAct(int slot) {
        if (!isSlot(slot)) {
            return NO_NUMBER;
        }
        if (!isFull(slot)) {
            return NO_PATCH;
        }
        latestFlaw = reader.read(now.slots[slot], now.old, true);
        return latestFlaw == 0 ? 0 : HAS_FLAW;
    }

    private void findAnchors() {
        tails.matchAll(now);
        anchors.find(now, tails, terms, terms[LEAST]);
    }

    private int packAnchors() {
        return packer.pack(anchors.origins, now.old.n, now.old.checkAll(), now.fresh.checkAll());
    }

    /** Numbers in a row that has a limit: what would go beyond it is left out. */
    private static final class Row {
        final int[] bytes;
        int n;

        Row(int room) {
            bytes = new int[Math.max(room, 0)];
            n = 0;
        }

        int get(int i) {
            return i < 0 || i >= n || i >= bytes.length ? NONE : bytes[i];
        }

        void add(int value) {
            if (n >= 0 && n < bytes.length) {
                bytes[n] = value;
                n++;
            }
        }

        void addMany(int value, int many) {
            for (int i = 0; i < many; i++) {
                add(value);
            }
        }

        void addRow(Row other) {
            for (int i = 0; i < other.n; i++) {
                add(other.get(i));
            }
        }

        void change(int i, int value) {
            if (i >= 0 && i < n && i < bytes.length) {
                bytes[i] = value;
            }
        }

        void putIn(int i, int value) {
            if (i < 0 || i > n || n >= bytes.length) {
                return;
            }
            System.arraycopy(bytes, i, bytes, i + 1, n - i);
            bytes[i] = value;
            n++;
        }

        void takeOut(int i, int many) {
            if (i < 0 || many < 0 || i > n || many > n - i) {
                return;
            }
            System.arraycopy(bytes, i + many, bytes, i, n - i - many);
            n -= many;
        }

        void copy(Row other) {
            n = Math.min(other.n, bytes.length);
            System.arraycopy(other.bytes, 0, bytes, 0, n);
        }

        int check(int until) {
            int check = 1;
            for (int i = 0; i < until && i < n; i++) {
                check = (3 * check + bytes[i]) % 257;
            }
            return check;
        }

        int checkAll() {
            return check(n);
        }

        int countAlike(Row other) {
            int alike = 0;
            for (int i = 0; i < n && i < other.n; i++) {
                if (bytes[i] == other.bytes[i]) {
                    alike++;
                }
            }
            return alike;
        }
    }

    /** All that undo() brings back: FILES, SLOTS, what is BARRED, the RUN. */
    private static final class State {
        final Row old;
        final Row fresh;
        final Row out;
        final Row[] slots;
        final boolean[] barred;
        // The RUN, a write a row: where to, from which PLACE (NONE: from none), what is added to that.
        final int[] runTo;
        final int[] runFrom;
        final int[] runAdd;
        int runSize;
        int runDone;

        State() {
            old = new Row(FILE_ROOM);
            fresh = new Row(FILE_ROOM);
            out = new Row(FILE_ROOM);
            slots = new Row[SLOTS];
            for (int i = 0; i < SLOTS; i++) {
                slots[i] = new Row(PATCH_ROOM);
            }
            barred = new boolean[FILE_ROOM];
            runTo = new int[FILE_ROOM];
            runFrom = new int[FILE_ROOM];
            runAdd = new int[FILE_ROOM];
            runSize = 0;
            runDone = 0;
        }

        void copy(State other) {
            old.copy(other.old);
            fresh.copy(other.fresh);
            out.copy(other.out);
            for (int i = 0; i < SLOTS; i++) {
                slots[i].copy(other.slots[i]);
            }
            System.arraycopy(other.barred, 0, barred, 0, FILE_ROOM);
            System.arraycopy(other.runTo, 0, runTo, 0, FILE_ROOM);
            System.arraycopy(other.runFrom, 0, runFrom, 0, FILE_ROOM);
            System.arraycopy(other.runAdd, 0, runAdd, 0, FILE_ROOM);
            runSize = other.runSize;
            runDone = other.runDone;
        }

        Row fileAt(int which) {
            return which == 0 ? old : which == 1 ? fresh : out;
        }

        int countBarred() {
            int many = 0;
            for (int i = 0; i < FILE_ROOM; i++) {
                if (barred[i]) {
                    many++;
                }
            }
            return many;
        }

        boolean isOpen(int place) {
            return place >= 0 && place < old.n && place < FILE_ROOM && !barred[place];
        }

        boolean isAlike(int spot, int place) {
            return isOpen(place) && spot >= 0 && spot < fresh.n && fresh.get(spot) == old.get(place);
        }

        boolean runs() {
            return runDone < runSize;
        }

        void startRun(int size) {
            runSize = size;
            runDone = 0;
            old.addMany(0, size - old.n);
            endRun();
        }

        void goOn(int n) {
            for (int i = 0; i < n && runDone < runSize && runDone < FILE_ROOM; i++) {
                int from = runFrom[runDone];
                int there = from == NONE ? 0 : old.get(from);
                old.change(runTo[runDone], (there + runAdd[runDone]) & 255);
                runDone++;
            }
            endRun();
        }

        private void endRun() {
            if (!runs()) {
                old.n = runSize;
            }
        }
    }

    /** ORIGINS: of each SPOT the PLACE and the DIFFERENCE, or NONE and the BYTE, if it is EXTRA. */
    private static final class Origins {
        final int[] places;
        final int[] values;
        int n;

        Origins() {
            places = new int[FILE_ROOM];
            values = new int[FILE_ROOM];
            n = 0;
        }

        void add(int place, int value) {
            if (n >= 0 && n < FILE_ROOM) {
                places[n] = place;
                values[n] = value;
                n++;
            }
        }

        void addAgain(int back) {
            add(placeAt(n - back), valueAt(n - back));
        }

        void change(int i, int place, int value) {
            if (i >= 0 && i < n && i < FILE_ROOM) {
                places[i] = place;
                values[i] = value;
            }
        }

        int placeAt(int i) {
            return i < 0 || i >= n || i >= FILE_ROOM ? NONE : places[i];
        }

        int valueAt(int i) {
            return i < 0 || i >= n || i >= FILE_ROOM ? NONE : values[i];
        }

        void copy(Origins other) {
            n = other.n;
            System.arraycopy(other.places, 0, places, 0, FILE_ROOM);
            System.arraycopy(other.values, 0, values, 0, FILE_ROOM);
        }

        boolean goesOn(int i) {
            return placeAt(i - 1) != NONE && placeAt(i) == placeAt(i - 1) + 1;
        }

        boolean startsPart(int i) {
            return i == 0 || placeAt(i) != NONE && !goesOn(i);
        }

        int countParts() {
            int parts = 0;
            for (int i = 0; i < n; i++) {
                if (startsPart(i)) {
                    parts++;
                }
            }
            return parts;
        }

        int copySize(int i) {
            if (placeAt(i) == NONE) {
                return 0;
            }
            int behind = i + 1;
            while (behind < n && goesOn(behind)) {
                behind++;
            }
            return behind - i;
        }

        int extraSize(int i) {
            int behind = i;
            while (behind < n && placeAt(behind) == NONE) {
                behind++;
            }
            return behind - i;
        }

        void comeOut(Row old, Row to) {
            to.n = 0;
            for (int i = 0; i < n; i++) {
                int place = placeAt(i);
                to.add(place == NONE ? valueAt(i) : (old.get(place) + valueAt(i)) & 255);
            }
        }

        /** Each SPOT that is from a SPOT of those ahead is from what that is from. */
        void follow(Origins ahead) {
            for (int i = 0; i < n; i++) {
                int from = placeAt(i);
                if (from != NONE) {
                    change(i, ahead.placeAt(from), (ahead.valueAt(from) + valueAt(i)) & 255);
                }
            }
        }

        void turnRound(Origins other, Row old, Row out) {
            n = 0;
            for (int i = 0; i < old.n; i++) {
                add(NONE, old.get(i));
            }
            // From the last SPOT back, so that the lowest one is what stands.
            for (int spot = other.n - 1; spot >= 0; spot--) {
                int place = other.placeAt(spot);
                if (place != NONE) {
                    change(place, spot, (old.get(place) - out.get(spot)) & 255);
                }
            }
        }
    }

    /** The TAILS of OLD as SORTED, and the MATCH of each SPOT of NEW. */
    private static final class Tails {
        final int[] places;
        int n;
        final int[] longest;
        final int[] where;
        final int[] times;
        private final int[] common;

        Tails() {
            places = new int[FILE_ROOM];
            n = 0;
            longest = new int[FILE_ROOM];
            where = new int[FILE_ROOM];
            times = new int[FILE_ROOM];
            common = new int[FILE_ROOM + 1];
        }

        void sort(State now) {
            n = 0;
            for (int place = 0; place < FILE_ROOM; place++) {
                if (now.isOpen(place)) {
                    insert(now, place);
                }
            }
        }

        private void insert(State now, int place) {
            if (n < 0 || n >= FILE_ROOM) {
                return;
            }
            int low = 0;
            int high = n;
            for (int round = 0; round < FILE_ROOM && low < high; round++) {
                int middle = (low + high) / 2;
                if (isAhead(now, places[middle], place)) {
                    low = middle + 1;
                } else {
                    high = middle;
                }
            }
            System.arraycopy(places, low, places, low + 1, n - low);
            places[low] = place;
            n++;
        }

        private static boolean isAhead(State now, int one, int other) {
            int alike = alikeFirst(now, one, other);
            boolean oneEnds = !now.isOpen(one + alike);
            boolean otherEnds = !now.isOpen(other + alike);
            if (oneEnds && otherEnds) {
                return one < other;
            }
            if (oneEnds || otherEnds) {
                return oneEnds;
            }
            return now.old.get(one + alike) < now.old.get(other + alike);
        }

        private static int alikeFirst(State now, int one, int other) {
            int alike = 0;
            while (alike < FILE_ROOM && now.isOpen(one + alike) && now.isOpen(other + alike)
                    && now.old.get(one + alike) == now.old.get(other + alike)) {
                alike++;
            }
            return alike;
        }

        int sizeOf(State now, int place) {
            int size = 0;
            while (size < FILE_ROOM && now.isOpen(place + size)) {
                size++;
            }
            return size;
        }

        int alikeAhead(State now, int k) {
            if (k < 1 || k >= n || k >= FILE_ROOM) {
                return 0;
            }
            return alikeFirst(now, places[k - 1], places[k]);
        }

        // Those that begin alike stand one behind another, so each kind is met at its first one.
        int countKinds(State now, int size) {
            int kinds = 0;
            for (int k = 0; k < n && k < FILE_ROOM; k++) {
                if (sizeOf(now, places[k]) >= size && alikeAhead(now, k) < size) {
                    kinds++;
                }
            }
            return kinds;
        }

        int longestRepeated(State now) {
            int most = 0;
            for (int k = 1; k < n; k++) {
                most = Math.max(most, alikeAhead(now, k));
            }
            return most;
        }

        int lowestRepeated(State now, int size) {
            int lowest = NONE;
            for (int k = 1; k < n && k < FILE_ROOM; k++) {
                if (alikeAhead(now, k) == size) {
                    int lower = Math.min(places[k - 1], places[k]);
                    lowest = lowest == NONE ? lower : Math.min(lowest, lower);
                }
            }
            return lowest;
        }

        void matchAll(State now) {
            for (int place = 0; place <= FILE_ROOM; place++) {
                common[place] = 0;
            }
            for (int spot = Math.min(now.fresh.n, FILE_ROOM) - 1; spot >= 0; spot--) {
                matchSpot(now, spot);
            }
        }

        // common tells, ahead of this, how far each PLACE goes on with the SPOT behind this one.
        private void matchSpot(State now, int spot) {
            int most = 0;
            int lowest = NONE;
            int many = 0;
            for (int place = 0; place < now.old.n && place < FILE_ROOM; place++) {
                common[place] = now.isAlike(spot, place) ? common[place + 1] + 1 : 0;
                if (common[place] > most) {
                    most = common[place];
                    lowest = place;
                    many = 0;
                }
                if (most > 0 && common[place] == most) {
                    many++;
                }
            }
            longest[spot] = most;
            where[spot] = lowest;
            times[spot] = many;
        }
    }

    /** The ANCHORS, what they REACH, the ORIGINS that come of them. */
    private static final class Anchors {
        final int[] spots;
        final int[] places;
        final int[] sizes;
        final int[] forward;
        final int[] back;
        int n;
        final Origins origins;
        private int gain;
        private int loss;

        Anchors() {
            spots = new int[FILE_ROOM];
            places = new int[FILE_ROOM];
            sizes = new int[FILE_ROOM];
            forward = new int[FILE_ROOM];
            back = new int[FILE_ROOM];
            n = 0;
            origins = new Origins();
            gain = 0;
            loss = 0;
        }

        /** The TAILS must have been matched; least stands for the TERM of that name. */
        void find(State now, Tails tails, int[] terms, int least) {
            if (terms.length < TERMS) {
                return;
            }
            gain = terms[GAIN];
            loss = terms[LOSS];
            choose(now, tails, least, terms[SLACK]);
            for (int i = 0; i < n && i < FILE_ROOM; i++) {
                forward[i] = reachForward(now, i);
                back[i] = i == 0 ? 0 : reachBack(now, i);
            }
            for (int i = 0; i + 1 < n; i++) {
                share(now, i);
            }
            fillOrigins(now);
        }

        private void addAnchor(int spot, int place, int size) {
            if (n >= 0 && n < FILE_ROOM) {
                spots[n] = spot;
                places[n] = place;
                sizes[n] = size;
                n++;
            }
        }

        private void choose(State now, Tails tails, int least, int slack) {
            n = 0;
            addAnchor(0, 0, 0);
            int next = 0;
            for (int spot = 0; spot < now.fresh.n && spot < FILE_ROOM; spot++) {
                int size = tails.longest[spot];
                if (spot >= next && size >= least && size > slack + alikeOnLatest(now, spot, size)) {
                    addAnchor(spot, tails.where[spot], size);
                    next = spot + size;
                }
            }
        }

        private int alikeOnLatest(State now, int spot, int size) {
            int latest = n - 1;
            if (latest < 0 || latest >= FILE_ROOM) {
                return 0;
            }
            int shift = places[latest] - spots[latest];
            int alike = 0;
            for (int i = spot; i < spot + size; i++) {
                if (now.isAlike(i, i + shift)) {
                    alike++;
                }
            }
            return alike;
        }

        private int worth(State now, int spot, int place) {
            return now.isAlike(spot, place) ? gain : -loss;
        }

        private int reachForward(State now, int i) {
            if (i < 0 || i >= n || i >= FILE_ROOM) {
                return 0;
            }
            int spot = spots[i] + sizes[i];
            int place = places[i] + sizes[i];
            int until = i + 1 < n && i + 1 < FILE_ROOM ? spots[i + 1] : now.fresh.n;
            int sum = 0;
            int most = 0;
            int reach = 0;
            for (int k = 0; spot + k < until && now.isOpen(place + k); k++) {
                sum += worth(now, spot + k, place + k);
                if (sum > most) {
                    most = sum;
                    reach = k + 1;
                }
            }
            return reach;
        }

        private int reachBack(State now, int i) {
            if (i < 1 || i >= n || i >= FILE_ROOM) {
                return 0;
            }
            int from = spots[i - 1] + sizes[i - 1];
            int sum = 0;
            int most = 0;
            int reach = 0;
            for (int k = 1; spots[i] - k >= from && now.isOpen(places[i] - k); k++) {
                sum += worth(now, spots[i] - k, places[i] - k);
                if (sum > most) {
                    most = sum;
                    reach = k;
                }
            }
            return reach;
        }

        private void share(State now, int i) {
            int next = i + 1;
            if (i < 0 || next >= n || next >= FILE_ROOM) {
                return;
            }
            int first = spots[next] - back[next];
            int behind = spots[i] + sizes[i] + forward[i];
            if (behind <= first) {
                return;
            }
            int shift = places[i] - spots[i];
            int nextShift = places[next] - spots[next];
            // What all SPOTS being the next one's is worth is in every sum, so it is left out.
            int sum = 0;
            int most = 0;
            int given = 0;
            for (int spot = first; spot < behind; spot++) {
                sum += worth(now, spot, spot + shift) - worth(now, spot, spot + nextShift);
                if (sum > most) {
                    most = sum;
                    given = spot - first + 1;
                }
            }
            forward[i] -= behind - first - given;
            back[next] -= given;
        }

        private void fillOrigins(State now) {
            origins.n = 0;
            for (int spot = 0; spot < now.fresh.n; spot++) {
                origins.add(NONE, now.fresh.get(spot));
            }
            for (int i = 0; i < n && i < FILE_ROOM; i++) {
                int shift = places[i] - spots[i];
                int behind = spots[i] + sizes[i] + forward[i];
                for (int spot = spots[i] - back[i]; spot < behind; spot++) {
                    int difference = (now.fresh.get(spot) - now.old.get(spot + shift)) & 255;
                    origins.change(spot, spot + shift, difference);
                }
            }
        }
    }

    /** Packs ORIGINS into a PATCH. */
    private static final class Packer {
        // Not yet in a SLOT, so that one that was read may be the one that is written.
        final Row made;
        private final Row differences;
        private final Row extras;
        private final Row best;
        private final Row tried;

        Packer() {
            made = new Row(PATCH_ROOM);
            differences = new Row(FILE_ROOM);
            extras = new Row(FILE_ROOM);
            best = new Row(PATCH_ROOM);
            tried = new Row(PATCH_ROOM);
        }

        int pack(Origins origins, int oldSize, int oldCheck, int newCheck) {
            made.n = 0;
            addNumber(made, oldSize);
            addNumber(made, oldCheck);
            addNumber(made, origins.n);
            addNumber(made, newCheck);
            addNumber(made, origins.countParts());
            packParts(made, origins);
            splitValues(origins);
            packRow(made, differences);
            packRow(made, extras);
            int check = made.checkAll();
            made.add(check / 256);
            made.add(check % 256);
            return made.n;
        }

        // No NUMBER of a PATCH needs more than two BYTES.
        private static void addNumber(Row to, int number) {
            if (number < 128) {
                to.add(number);
            } else {
                to.add(128 + number % 128);
                to.add(number / 128);
            }
        }

        private static void packParts(Row to, Origins origins) {
            int behind = 0;
            for (int i = 0; i < origins.n; i++) {
                if (origins.startsPart(i)) {
                    int copy = origins.copySize(i);
                    int seek = copy == 0 ? 0 : origins.placeAt(i) - behind;
                    addNumber(to, seek < 0 ? -2 * seek - 1 : 2 * seek);
                    addNumber(to, copy);
                    addNumber(to, origins.extraSize(i + copy));
                    behind = copy == 0 ? 0 : origins.placeAt(i) + copy;
                }
            }
        }

        private void splitValues(Origins origins) {
            differences.n = 0;
            extras.n = 0;
            for (int i = 0; i < origins.n; i++) {
                Row row = origins.placeAt(i) == NONE ? extras : differences;
                row.add(origins.valueAt(i));
            }
        }

        private void packRow(Row to, Row row) {
            packPlain(best, row);
            packZeros(tried, row);
            keepShorter();
            packRuns(tried, row);
            keepShorter();
            to.addRow(best);
        }

        private void keepShorter() {
            if (tried.n < best.n) {
                best.copy(tried);
            }
        }

        private static void packPlain(Row to, Row row) {
            to.n = 0;
            addNumber(to, 0);
            to.addRow(row);
        }

        private static void packZeros(Row to, Row row) {
            to.n = 0;
            addNumber(to, 1);
            int at = 0;
            for (int round = 0; round < row.n && at < row.n; round++) {
                int other = at;
                while (other < row.n && row.get(other) == 0) {
                    other++;
                }
                addNumber(to, other - at);
                int behind = other;
                while (behind < row.n && row.get(behind) != 0) {
                    behind++;
                }
                if (behind > other) {
                    addNumber(to, behind - other);
                }
                for (int i = other; i < behind; i++) {
                    to.add(row.get(i));
                }
                at = behind;
            }
        }

        private static void packRuns(Row to, Row row) {
            to.n = 0;
            addNumber(to, 2);
            int first = 0;
            for (int i = 1; i <= row.n; i++) {
                if (i == row.n || row.get(i) != row.get(first)) {
                    addNumber(to, i - first);
                    to.add(row.get(first));
                    first = i;
                }
            }
        }
    }

    /** READS a PATCH, alone or for OLD. */
    private static final class Reader {
        int oldSize;
        int oldCheck;
        int newSize;
        int newCheck;
        int parts;
        final int[] place;
        final int[] copy;
        final int[] extra;
        final int[] spot;
        final int[] ways;
        final Origins origins;
        final Row out;
        private final Row text;
        private final Row differences;
        private final Row extras;
        private int copied;
        private int at;
        private int until;

        Reader() {
            place = new int[PARTS_ROOM];
            copy = new int[PARTS_ROOM];
            extra = new int[PARTS_ROOM];
            spot = new int[PARTS_ROOM];
            ways = new int[2];
            origins = new Origins();
            out = new Row(FILE_ROOM);
            text = new Row(PATCH_ROOM);
            differences = new Row(FILE_ROOM);
            extras = new Row(FILE_ROOM);
        }

        /** Answers the FLAW, 0 without one; what is told of the PATCH holds only without one. */
        int read(Row patch, Row old, boolean forOld) {
            text.copy(patch);
            int flaw = checkFlaw();
            if (flaw == 0) {
                flaw = headFlaw(old, forOld);
            }
            if (flaw == 0) {
                flaw = partsFlaw();
            }
            if (flaw == 0) {
                flaw = rowFlaw(differences, copied, 0);
            }
            if (flaw == 0) {
                flaw = rowFlaw(extras, newSize - copied, 1);
            }
            if (flaw == 0 && at < until) {
                flaw = 6;
            }
            if (flaw != 0) {
                return flaw;
            }
            fillOrigins();
            return forOld ? outFlaw(old) : 0;
        }

        private int outFlaw(Row old) {
            origins.comeOut(old, out);
            return out.checkAll() == newCheck ? 0 : 7;
        }

        private int checkFlaw() {
            at = 0;
            until = text.n - 2;
            if (until < 0) {
                return 1;
            }
            int told = text.get(until) * 256 + text.get(until + 1);
            return told == text.check(until) ? 0 : 2;
        }

        private int nextByte() {
            if (at < 0 || at >= until || at >= text.bytes.length) {
                return NONE;
            }
            at++;
            return text.bytes[at - 1];
        }

        private int nextNumber() {
            int low = nextByte();
            if (low < 128) {
                return low;
            }
            int high = nextByte();
            return high < 0 || high >= 128 ? NONE : low - 128 + 128 * high;
        }

        private int headFlaw(Row old, boolean forOld) {
            oldSize = nextNumber();
            if (oldSize < 0) {
                return 3;
            }
            if (oldSize > FILE_ROOM) {
                return 5;
            }
            oldCheck = nextNumber();
            if (oldCheck < 0) {
                return 3;
            }
            if (forOld && (oldSize != old.n || oldCheck != old.checkAll())) {
                return 4;
            }
            newSize = nextNumber();
            if (newSize < 0) {
                return 3;
            }
            if (newSize > FILE_ROOM) {
                return 5;
            }
            newCheck = nextNumber();
            parts = nextNumber();
            return newCheck < 0 || parts < 0 ? 3 : 0;
        }

        private int partsFlaw() {
            int behind = 0;
            int spots = 0;
            copied = 0;
            for (int i = 0; i < parts; i++) {
                int seek = nextNumber();
                int size = nextNumber();
                int others = nextNumber();
                if (seek < 0 || size < 0 || others < 0 || i >= PARTS_ROOM) {
                    return 3;
                }
                int first = behind + (seek % 2 == 0 ? seek / 2 : -(seek + 1) / 2);
                behind = first + size;
                if (first < 0 || behind > oldSize || size + others > newSize - spots) {
                    return 5;
                }
                place[i] = first;
                copy[i] = size;
                extra[i] = others;
                spot[i] = spots;
                spots += size + others;
                copied += size;
            }
            return spots < newSize ? 5 : 0;
        }

        private int rowFlaw(Row into, int many, int which) {
            into.n = 0;
            int way = nextNumber();
            if (way < 0) {
                return 3;
            }
            if (way > 2) {
                return 5;
            }
            if (which >= 0 && which < ways.length) {
                ways[which] = way;
            }
            if (way == 0) {
                return plainFlaw(into, many);
            }
            return way == 1 ? zerosFlaw(into, many) : runsFlaw(into, many);
        }

        private int plainFlaw(Row into, int many) {
            for (int i = 0; i < many; i++) {
                int value = nextByte();
                if (value < 0) {
                    return 3;
                }
                into.add(value);
            }
            return 0;
        }

        // Each round tells one BYTE at least, so there are no more rounds than BYTES.
        private int zerosFlaw(Row into, int many) {
            for (int round = 0; round < many && into.n < many; round++) {
                int zeros = nextNumber();
                if (zeros < 0) {
                    return 3;
                }
                if (zeros > many - into.n) {
                    return 5;
                }
                into.addMany(0, zeros);
                if (into.n < many) {
                    int others = nextNumber();
                    if (others == 0 || others > many - into.n) {
                        return 5;
                    }
                    if (others < 0 || plainFlaw(into, others) != 0) {
                        return 3;
                    }
                }
            }
            return 0;
        }

        private int runsFlaw(Row into, int many) {
            for (int round = 0; round < many && into.n < many; round++) {
                int same = nextNumber();
                if (same < 0) {
                    return 3;
                }
                if (same == 0 || same > many - into.n) {
                    return 5;
                }
                int value = nextByte();
                if (value < 0) {
                    return 3;
                }
                into.addMany(value, same);
            }
            return 0;
        }

        private void fillOrigins() {
            origins.n = 0;
            int told = 0;
            int others = 0;
            for (int i = 0; i < parts && i < PARTS_ROOM; i++) {
                for (int k = 0; k < copy[i]; k++) {
                    origins.add(place[i] + k, differences.get(told));
                    told++;
                }
                for (int k = 0; k < extra[i]; k++) {
                    origins.add(NONE, extras.get(others));
                    others++;
                }
            }
        }
    }

    /** The COPIES of a PATCH that was READ: their ORDER, the RUN by it, the PAGES they are read from. */
    private static final class Copies {
        final int[] inOrder;
        int n;
        int droppedCopies;
        int droppedSpots;
        int loads;
        int mostHeld;
        private final boolean[] waits;
        private final boolean[] isDropped;
        // Of each COPY, how many others that are left read what it writes.
        private final int[] readers;
        private int planned;
        // When each PAGE was read last; 0: it is not held.
        private final int[] readAt;
        private int held;

        Copies() {
            inOrder = new int[PARTS_ROOM];
            waits = new boolean[PARTS_ROOM];
            isDropped = new boolean[PARTS_ROOM];
            readers = new int[PARTS_ROOM];
            readAt = new int[FILE_ROOM / PAGE];
            n = 0;
            droppedCopies = 0;
            droppedSpots = 0;
            loads = 0;
            mostHeld = 0;
            planned = 0;
            held = 0;
        }

        void findOrder(Reader patch) {
            int parts = Math.min(patch.parts, PARTS_ROOM);
            n = 0;
            droppedCopies = 0;
            droppedSpots = 0;
            int waiting = 0;
            for (int i = 0; i < parts; i++) {
                waits[i] = patch.copy[i] > 0;
                isDropped[i] = false;
                readers[i] = countReaders(patch, i, parts);
                waiting += waits[i] ? 1 : 0;
            }
            for (int round = 0; round < waiting; round++) {
                int next = firstFree(parts);
                if (next >= 0 && next < PARTS_ROOM && n < PARTS_ROOM) {
                    inOrder[n] = next;
                    n++;
                } else {
                    next = smallest(patch, parts);
                    setAside(patch, next);
                }
                release(patch, next, parts);
            }
        }

        private static int countReaders(Reader patch, int writer, int parts) {
            int many = 0;
            for (int i = 0; i < parts; i++) {
                if (i != writer && spoils(patch, writer, i)) {
                    many++;
                }
            }
            return many;
        }

        private static boolean spoils(Reader patch, int writer, int reader) {
            if (writer < 0 || writer >= PARTS_ROOM || reader < 0 || reader >= PARTS_ROOM) {
                return false;
            }
            int to = patch.spot[writer];
            int from = patch.place[reader];
            return patch.copy[writer] > 0 && patch.copy[reader] > 0
                    && to < from + patch.copy[reader] && from < to + patch.copy[writer];
        }

        private int firstFree(int parts) {
            for (int i = 0; i < parts && i < PARTS_ROOM; i++) {
                if (waits[i] && readers[i] == 0) {
                    return i;
                }
            }
            return NONE;
        }

        private int smallest(Reader patch, int parts) {
            int found = NONE;
            int fewest = 0;
            for (int i = 0; i < parts && i < PARTS_ROOM; i++) {
                if (waits[i] && (found == NONE || patch.copy[i] < fewest)) {
                    found = i;
                    fewest = patch.copy[i];
                }
            }
            return found;
        }

        private void setAside(Reader patch, int i) {
            if (i >= 0 && i < PARTS_ROOM) {
                isDropped[i] = true;
                droppedCopies++;
                droppedSpots += patch.copy[i];
            }
        }

        private void release(Reader patch, int gone, int parts) {
            if (gone < 0 || gone >= PARTS_ROOM) {
                return;
            }
            waits[gone] = false;
            for (int i = 0; i < parts && i < PARTS_ROOM; i++) {
                if (i != gone && spoils(patch, i, gone)) {
                    readers[i]--;
                }
            }
        }

        /** The ORDER must have been found. */
        void planRun(Reader patch, State now) {
            planned = 0;
            for (int k = 0; k < n && k < PARTS_ROOM; k++) {
                planCopy(patch, inOrder[k], now);
            }
            for (int i = 0; i < patch.parts && i < PARTS_ROOM; i++) {
                int first = isDropped[i] ? 0 : patch.copy[i];
                for (int k = first; k < patch.copy[i] + patch.extra[i]; k++) {
                    planKept(patch, patch.spot[i] + k, now);
                }
            }
        }

        private void planCopy(Reader patch, int i, State now) {
            if (i < 0 || i >= PARTS_ROOM) {
                return;
            }
            int size = patch.copy[i];
            boolean rising = patch.place[i] >= patch.spot[i];
            for (int k = 0; k < size; k++) {
                int spot = patch.spot[i] + (rising ? k : size - 1 - k);
                plan(now, spot, patch.origins.placeAt(spot), patch.origins.valueAt(spot));
            }
        }

        private void planKept(Reader patch, int spot, State now) {
            int place = patch.origins.placeAt(spot);
            int kept = place == NONE ? 0 : now.old.get(place);
            plan(now, spot, NONE, kept + patch.origins.valueAt(spot));
        }

        private void plan(State now, int to, int from, int add) {
            if (planned >= 0 && planned < FILE_ROOM) {
                now.runTo[planned] = to;
                now.runFrom[planned] = from;
                now.runAdd[planned] = add;
                planned++;
            }
        }

        void load(Reader patch, int frames) {
            loads = 0;
            mostHeld = 0;
            held = 0;
            for (int page = 0; page < readAt.length; page++) {
                readAt[page] = 0;
            }
            int time = 0;
            for (int pass = 0; pass < 2; pass++) {
                for (int spot = 0; spot < patch.origins.n; spot++) {
                    int place = patch.origins.placeAt(spot);
                    if (place != NONE) {
                        time++;
                        readPage(place / PAGE, frames, time);
                    }
                }
            }
        }

        private void readPage(int page, int frames, int time) {
            if (page < 0 || page >= readAt.length) {
                return;
            }
            if (readAt[page] == 0) {
                if (held >= frames) {
                    giveUpOldest();
                }
                loads++;
                held++;
                mostHeld = Math.max(mostHeld, held);
            }
            readAt[page] = time;
        }

        private void giveUpOldest() {
            int oldest = NONE;
            for (int page = 0; page < readAt.length; page++) {
                if (readAt[page] > 0 && (oldest == NONE || readAt[page] < readAt[oldest])) {
                    oldest = page;
                }
            }
            if (oldest != NONE) {
                readAt[oldest] = 0;
                held--;
            }
        }
    }

    /** Reads RECIPES and runs them. */
    private static final class Recipe {
        private static final int STEPS_ROOM = 24;
        private static final int BRACKETS_ROOM = 4;
        // A STEP that is no loop makes a SPOT at least, so a run ends far below this.
        private static final int ROUNDS = 10000;
        private static final int TAKE = 0;
        private static final int FILL = 1;
        private static final int SAY = 2;
        private static final int AGAIN = 3;
        private static final int TIMES = 4;

        int fault;
        int stopped;
        private final Row text;
        // The TOKEN that is next: its first byte, the one behind its last; the latest number.
        private int first;
        private int behind;
        private int got;
        private int steps;
        private final int[] kinds;
        private final int[] many;
        // take: the PLACE; fill: the BYTE; say: where its BYTES begin; again: how far back.
        private final int[] what;
        private final int[] by;
        // times: the number of the STEP behind its bracket.
        private final int[] over;
        private final Row said;
        private final int[] open;
        private final int[] roundsLeft;
        private int depth;

        Recipe() {
            fault = NONE;
            stopped = NONE;
            text = new Row(TAPE_ROOM);
            kinds = new int[STEPS_ROOM];
            many = new int[STEPS_ROOM];
            what = new int[STEPS_ROOM];
            by = new int[STEPS_ROOM];
            over = new int[STEPS_ROOM];
            said = new Row(TAPE_ROOM);
            open = new int[BRACKETS_ROOM];
            roundsLeft = new int[BRACKETS_ROOM];
        }

        // Wherever a method that reads answers false, the TOKEN that is next is the FAULT.
        boolean readAll(Row tape) {
            text.copy(tape);
            stopped = NONE;
            steps = 0;
            depth = 0;
            said.n = 0;
            behind = 0;
            nextToken();
            boolean fine = true;
            boolean more = true;
            for (int step = 0; step <= STEPS_ROOM && fine && more; step++) {
                fine = readStep(step);
                if (fine && !opensBracket(step)) {
                    closeBrackets();
                    more = first < text.n;
                    fine = more ? isSign(';') : depth == 0;
                }
            }
            fault = fine ? NONE : first;
            return fine;
        }

        private boolean opensBracket(int step) {
            return step >= 0 && step < STEPS_ROOM && kinds[step] == TIMES;
        }

        private void closeBrackets() {
            for (int round = 0; round < BRACKETS_ROOM && depth > 0 && isSign(')'); round++) {
                depth--;
                int loop = depth < BRACKETS_ROOM ? open[depth] : 0;
                if (loop >= 0 && loop < STEPS_ROOM) {
                    over[loop] = steps;
                }
            }
        }

        private boolean readStep(int step) {
            if (step < 0 || step >= STEPS_ROOM) {
                return false;
            }
            steps = step + 1;
            by[step] = 0;
            if (isWord("take")) {
                kinds[step] = TAKE;
                return readMany(step, FILE_ROOM) && isWord("at") && readWhat(step, 0, FILE_ROOM - 1)
                        && readBy(step);
            }
            if (isWord("fill")) {
                kinds[step] = FILL;
                return readMany(step, FILE_ROOM) && isWord("with") && readWhat(step, 0, 255);
            }
            if (isWord("say")) {
                kinds[step] = SAY;
                return readSaid(step);
            }
            if (isWord("again")) {
                kinds[step] = AGAIN;
                return readMany(step, FILE_ROOM) && isWord("back") && readWhat(step, 1, FILE_ROOM);
            }
            if (isWord("times")) {
                kinds[step] = TIMES;
                return readMany(step, 9) && openBracket(step);
            }
            return false;
        }

        private boolean readBy(int step) {
            if (!isWord("by")) {
                return true;
            }
            if (step < 0 || step >= STEPS_ROOM || !isNumber(0, 255)) {
                return false;
            }
            by[step] = got;
            return true;
        }

        private boolean readSaid(int step) {
            if (step < 0 || step >= STEPS_ROOM) {
                return false;
            }
            what[step] = said.n;
            boolean more = true;
            for (int i = 0; i < TAPE_ROOM && more; i++) {
                if (!isNumber(0, 255)) {
                    return false;
                }
                said.add(got);
                more = isSign(',');
            }
            many[step] = said.n - what[step];
            return true;
        }

        private boolean readMany(int step, int most) {
            if (step < 0 || step >= STEPS_ROOM || !isNumber(1, most)) {
                return false;
            }
            many[step] = got;
            return true;
        }

        private boolean readWhat(int step, int least, int most) {
            if (step < 0 || step >= STEPS_ROOM || !isNumber(least, most)) {
                return false;
            }
            what[step] = got;
            return true;
        }

        private boolean openBracket(int step) {
            if (depth < 0 || depth >= BRACKETS_ROOM || !isSign('(')) {
                return false;
            }
            open[depth] = step;
            depth++;
            return true;
        }

        private static boolean isLetter(int sign) {
            return sign >= 'a' && sign <= 'z';
        }

        private static boolean isDigit(int sign) {
            return sign >= '0' && sign <= '9';
        }

        private void nextToken() {
            first = behind;
            while (first < text.n && text.get(first) == ' ') {
                first++;
            }
            behind = first;
            if (isLetter(text.get(first))) {
                while (behind < text.n && isLetter(text.get(behind))) {
                    behind++;
                }
            } else if (isDigit(text.get(first))) {
                while (behind < text.n && isDigit(text.get(behind))) {
                    behind++;
                }
            } else if (first < text.n) {
                behind++;
            }
        }

        private boolean isWord(String word) {
            if (behind - first != word.length()) {
                return false;
            }
            for (int i = 0; i < word.length(); i++) {
                if (text.get(first + i) != word.charAt(i)) {
                    return false;
                }
            }
            nextToken();
            return true;
        }

        private boolean isSign(char sign) {
            if (text.get(first) != sign) {
                return false;
            }
            nextToken();
            return true;
        }

        private boolean isNumber(int least, int most) {
            if (!isDigit(text.get(first))) {
                return false;
            }
            int number = 0;
            for (int i = first; i < behind; i++) {
                // Beyond every limit it need not be exact, and must not wrap round.
                number = Math.min(number * 10 + text.get(i) - '0', 1000);
            }
            if (number < least || number > most) {
                return false;
            }
            got = number;
            nextToken();
            return true;
        }

        /** Answers 0, or what the STEP that stopped it is REFUSED by. */
        int run(Row old, Origins into) {
            into.n = 0;
            depth = 0;
            int step = 0;
            for (int round = 0; round < ROUNDS && step >= 0 && step < steps; round++) {
                int reason = runStep(step, old, into);
                if (reason != 0) {
                    stopped = step;
                    return reason;
                }
                step = stepBehind(step);
            }
            return 0;
        }

        private int stepBehind(int step) {
            int next = step + 1;
            for (int round = 0; round < BRACKETS_ROOM && depth > 0 && depth <= BRACKETS_ROOM; round++) {
                int loop = open[depth - 1];
                if (loop < 0 || loop >= STEPS_ROOM || next != over[loop]) {
                    return next;
                }
                roundsLeft[depth - 1]--;
                if (roundsLeft[depth - 1] > 0) {
                    return loop + 1;
                }
                depth--;
            }
            return next;
        }

        private int runStep(int step, Row old, Origins into) {
            if (step < 0 || step >= STEPS_ROOM) {
                return 0;
            }
            int n = many[step];
            if (kinds[step] == TIMES) {
                enterLoop(step, n);
                return 0;
            }
            if (kinds[step] == TAKE && n > old.n - what[step]) {
                return CANNOT_BE;
            }
            if (kinds[step] == AGAIN && into.n < what[step]) {
                return CANNOT_BE;
            }
            if (n > FILE_ROOM - into.n) {
                return NO_ROOM;
            }
            for (int i = 0; i < n; i++) {
                addSpot(step, i, into);
            }
            return 0;
        }

        private void enterLoop(int step, int rounds) {
            if (depth >= 0 && depth < BRACKETS_ROOM) {
                open[depth] = step;
                roundsLeft[depth] = rounds;
                depth++;
            }
        }

        private void addSpot(int step, int i, Origins into) {
            if (step < 0 || step >= STEPS_ROOM) {
                return;
            }
            switch (kinds[step]) {
                case TAKE:
                    into.add(what[step] + i, by[step]);
                    break;
                case FILL:
                    into.add(NONE, what[step]);
                    break;
                case SAY:
                    into.add(NONE, said.get(what[step] + i));
                    break;
                default:
                    into.addAgain(what[step]);
                    break;
            }
        }
    }

    /** The LISTING of a PATCH that was READ. */
    private static final class Lister {
        // No SPOT needs more than "take 1 at 63 by 255;", twenty signs.
        final Row text;

        Lister() {
            text = new Row(20 * FILE_ROOM);
        }

        void list(Reader patch) {
            text.n = 0;
            for (int i = 0; i < patch.parts && i < PARTS_ROOM; i++) {
                int behind = patch.spot[i] + patch.copy[i];
                listCopy(patch.origins, patch.spot[i], behind);
                listExtras(patch.origins, behind, behind + patch.extra[i]);
            }
        }

        private void listCopy(Origins origins, int from, int until) {
            int first = from;
            for (int spot = from + 1; spot <= until; spot++) {
                if (spot == until || origins.valueAt(spot) != origins.valueAt(first)) {
                    startStep("take ");
                    addDigits(spot - first);
                    addText(" at ");
                    addDigits(origins.placeAt(first));
                    if (origins.valueAt(first) != 0) {
                        addText(" by ");
                        addDigits(origins.valueAt(first));
                    }
                    first = spot;
                }
            }
        }

        private void listExtras(Origins origins, int from, int until) {
            for (int spot = from; spot < until; spot++) {
                if (spot == from) {
                    startStep("say ");
                } else {
                    text.add(',');
                }
                addDigits(origins.valueAt(spot));
            }
        }

        private void startStep(String word) {
            if (text.n > 0) {
                text.add(';');
            }
            addText(word);
        }

        private void addText(String signs) {
            for (int i = 0; i < signs.length(); i++) {
                text.add(signs.charAt(i));
            }
        }

        private void addDigits(int number) {
            if (number >= 100) {
                text.add('0' + number / 100 % 10);
            }
            if (number >= 10) {
                text.add('0' + number / 10 % 10);
            }
            text.add('0' + number % 10);
        }
    }

    /** What is reckoned on paper. */
    private static final class Paper {
        private static final int EXTRA_COST = 2;
        private static final int CHANGE_COST = 1;
        private static final int JUMP_COST = 3;
        private static final int TOO_DEAR = 1000000;
        // 3 times this is 1 modulo 257.
        private static final int THIRD = 86;

        int saves;
        int saveIndex;
        int saveByte;
        private final int[] row;
        private final Row others;
        private final Row trial;

        Paper() {
            row = new int[PARTS_ROOM];
            others = new Row(PATCH_ROOM);
            trial = new Row(PATCH_ROOM);
            saves = 0;
            saveIndex = NONE;
            saveByte = NONE;
        }

        int costOf(Origins origins) {
            int cost = 0;
            for (int i = 0; i < origins.n; i++) {
                if (origins.placeAt(i) == NONE) {
                    cost += EXTRA_COST;
                } else {
                    cost += origins.valueAt(i) == 0 ? 0 : CHANGE_COST;
                    cost += origins.goesOn(i) ? 0 : JUMP_COST;
                }
            }
            return cost;
        }

        // row tells of each PLACE the least COST of the SPOTS so far, if the last is from it.
        int leastCost(State now) {
            for (int place = 0; place < FILE_ROOM; place++) {
                row[place] = TOO_DEAR;
            }
            int least = 0;
            for (int spot = 0; spot < now.fresh.n; spot++) {
                int jumped = least + JUMP_COST;
                least += EXTRA_COST;
                for (int place = FILE_ROOM - 1; place >= 0; place--) {
                    int cost = TOO_DEAR;
                    if (now.isOpen(place)) {
                        int ahead = place == 0 ? TOO_DEAR : row[place - 1];
                        cost = Math.min(jumped, ahead) + (now.isAlike(spot, place) ? 0 : CHANGE_COST);
                    }
                    row[place] = cost;
                    least = Math.min(least, cost);
                }
            }
            return least;
        }

        // row tells of each number of OLD's first BYTES how far they are from NEW's first ones.
        int distance(Row old, Row fresh) {
            int places = Math.min(old.n, FILE_ROOM);
            for (int place = 0; place <= places; place++) {
                row[place] = place;
            }
            for (int spot = 0; spot < fresh.n; spot++) {
                int slant = row[0];
                row[0] = spot + 1;
                for (int place = 0; place < places; place++) {
                    int changed = slant + (old.get(place) == fresh.get(spot) ? 0 : 1);
                    slant = row[place + 1];
                    row[place + 1] = Math.min(changed, Math.min(slant, row[place]) + 1);
                }
            }
            return row[places];
        }

        // row tells of each COPY the most SPOTS of some that stay, it being the last of them.
        int mostInOrder(Reader patch) {
            int most = 0;
            for (int i = 0; i < patch.parts && i < PARTS_ROOM; i++) {
                int ahead = 0;
                for (int k = 0; k < i; k++) {
                    if (patch.place[k] + patch.copy[k] <= patch.place[i]) {
                        ahead = Math.max(ahead, row[k]);
                    }
                }
                row[i] = ahead + patch.copy[i];
                most = Math.max(most, row[i]);
            }
            return most;
        }

        /** How many ways there are TO SAVE a PATCH, the lowest INDEX, the BYTE there then. */
        void findSaves(Row patch, Row old, Reader reader) {
            saves = 0;
            saveIndex = NONE;
            saveByte = NONE;
            findOthers(patch);
            trial.copy(patch);
            for (int i = 0; i < others.n; i++) {
                int other = others.get(i);
                if (other != NONE && other != patch.get(i)) {
                    trial.change(i, other);
                    if (reader.read(trial, old, true) == 0) {
                        saveIndex = saves == 0 ? i : saveIndex;
                        saveByte = saves == 0 ? other : saveByte;
                        saves++;
                    }
                    trial.change(i, patch.get(i));
                }
            }
        }

        // Of each BYTE there is one at most that could stand there so that the CHECK is right:
        // three and its powers are no multiples of 257, so each BYTE gives another CHECK.
        private void findOthers(Row patch) {
            others.copy(patch);
            int front = patch.n - 2;
            if (front < 0) {
                return;
            }
            int told = patch.get(front) * 256 + patch.get(front + 1);
            int due = patch.check(front);
            int change = Math.floorMod(told - due, 257);
            for (int i = front - 1; i >= 0; i--) {
                int other = (patch.get(i) + change) % 257;
                others.change(i, told > 256 || other > 255 ? NONE : other);
                change = change * THIRD % 257;
            }
            boolean firstRight = patch.get(front) == due / 256;
            boolean secondRight = patch.get(front + 1) == due % 256;
            others.change(front, secondRight ? due / 256 : NONE);
            others.change(front + 1, firstRight ? due % 256 : NONE);
        }
    }
}
