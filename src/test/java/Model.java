import java.util.ArrayList;
import java.util.Arrays;
import java.util.HashMap;
import java.util.HashSet;
import java.util.LinkedList;
import java.util.List;
import java.util.Map;
import java.util.Set;

/**
 * The document written down a second time, as plainly and slowly as can be, with the whole Java
 * library: every choice is made by trying all there is. ModelTest holds the class against it.
 */
final class Model {
    static final class Refused extends RuntimeException {
        final int by;

        Refused(int by) {
            super(null, null, false, false);
            this.by = by;
        }
    }

    static final class Flaw extends RuntimeException {
        final int kind;

        Flaw(int kind) {
            super(null, null, false, false);
            this.kind = kind;
        }
    }

    static final class Fault extends RuntimeException {
        final int at;

        Fault(int at) {
            super(null, null, false, false);
            this.at = at;
        }
    }

    record Origin(int place, int value) {
        boolean extra() {
            return place < 0;
        }
    }

    record Anchor(int spot, int place, int size, int forward, int back) { }

    record Part(int place, int copy, int extra, int spot) { }

    record Patch(int oldSize, int oldCheck, int newSize, int newCheck, List<Part> parts,
                 List<Origin> origins, int differenceWay, int extraWay) { }

    record Order(List<Integer> order, List<Integer> dropped) { }

    record Write(int to, int from, int add) { }

    record Kept(int act, int[][] files, int[][] slots, Set<Integer> barred, List<Write> run, int runEnd) { }

    record Step(String word, int number, int n, int a, int b, List<Integer> said, List<Step> inner) { }

    int[][] files = {{}, {}, {}};
    int[][] slots = {null, null, null};
    Set<Integer> barred = new HashSet<>();
    // The writes of the RUN that are left; null: none goes on.
    List<Write> run = null;
    int runEnd = 0;
    int[] terms = {3, 1, 1, 1, 2};
    List<Integer> tape = new ArrayList<>();
    LinkedList<Kept> past = new LinkedList<>();
    int[] refusals = new int[6];
    int status = 0;
    int flaw = 0;
    int fault = -1;
    int stopped = -1;
    int loads = 0;
    int most = 0;

    // ---- small things ----

    static int check(int[] row) {
        int c = 1;
        for (int b : row) {
            c = (3 * c + b) % 257;
        }
        return c;
    }

    static int[] ints(List<Integer> list) {
        return list.stream().mapToInt(Integer::intValue).toArray();
    }

    private static void need(boolean fine, int by) {
        if (!fine) {
            throw new Refused(by);
        }
    }

    private static boolean slotNumber(int slot) {
        return slot >= 0 && slot <= 2;
    }

    private boolean has(int slot) {
        return slotNumber(slot) && slots[slot] != null;
    }

    private void keep(int act) {
        past.addLast(new Kept(act, files.clone(), slots.clone(), new HashSet<>(barred),
                run == null ? null : new ArrayList<>(run), runEnd));
        if (past.size() > 16) {
            past.removeFirst();
        }
    }

    interface Act {
        int go();
    }

    private int act(Act what) {
        try {
            int answer = what.go();
            status = 0;
            return answer;
        } catch (Refused r) {
            status = r.by;
            refusals[-r.by - 1]++;
            return r.by;
        }
    }

    // ---- II ----

    private int[] old() {
        return files[0];
    }

    private int[] fresh() {
        return files[1];
    }

    private boolean usable(int place) {
        return place >= 0 && place < old().length && !barred.contains(place);
    }

    private boolean alike(int spot, int place) {
        return usable(place) && fresh()[spot] == old()[place];
    }

    private List<Integer> tail(int place) {
        List<Integer> tail = new ArrayList<>();
        for (int p = place; usable(p); p++) {
            tail.add(old()[p]);
        }
        return tail;
    }

    private List<Integer> tailPlaces() {
        List<Integer> places = new ArrayList<>();
        for (int p = 0; p < old().length; p++) {
            if (usable(p)) {
                places.add(p);
            }
        }
        return places;
    }

    private List<Integer> sortedPlaces() {
        List<Integer> places = tailPlaces();
        places.sort((p, q) -> {
            int byBytes = Arrays.compare(ints(tail(p)), ints(tail(q)));
            return byBytes != 0 ? byBytes : Integer.compare(p, q);
        });
        return places;
    }

    private static int common(List<Integer> a, List<Integer> b) {
        int n = 0;
        while (n < a.size() && n < b.size() && a.get(n).equals(b.get(n))) {
            n++;
        }
        return n;
    }

    /** size, lowest place, how many. */
    private int[] matchOf(int spot) {
        for (int n = fresh().length - spot; n >= 1; n--) {
            int lowest = -1;
            int many = 0;
            for (int p : tailPlaces()) {
                List<Integer> tail = tail(p);
                boolean begins = tail.size() >= n;
                for (int i = 0; begins && i < n; i++) {
                    begins = tail.get(i) == fresh()[spot + i];
                }
                if (begins) {
                    lowest = lowest < 0 ? p : lowest;
                    many++;
                }
            }
            if (many > 0) {
                return new int[] {n, lowest, many};
            }
        }
        return new int[] {0, -1, 0};
    }

    private int worth(int spot, int place) {
        return alike(spot, place) ? terms[2] : -terms[3];
    }

    private List<Anchor> anchorsNow(int least) {
        List<int[]> raw = new ArrayList<>();
        raw.add(new int[] {0, 0, 0});
        int spot = 0;
        while (spot < fresh().length) {
            int[] m = matchOf(spot);
            int[] latest = raw.get(raw.size() - 1);
            int together = terms[1];
            for (int i = 0; i < m[0]; i++) {
                together += alike(spot + i, latest[1] + (spot + i - latest[0])) ? 1 : 0;
            }
            if (m[0] >= least && m[0] > together) {
                raw.add(new int[] {spot, m[1], m[0]});
                spot += m[0];
            } else {
                spot++;
            }
        }
        int[] forward = new int[raw.size()];
        int[] back = new int[raw.size()];
        for (int i = 0; i < raw.size(); i++) {
            forward[i] = bestForward(raw, i);
            back[i] = i == 0 ? 0 : bestBack(raw, i);
        }
        for (int i = 0; i + 1 < raw.size(); i++) {
            shareOut(raw, forward, back, i);
        }
        List<Anchor> anchors = new ArrayList<>();
        for (int i = 0; i < raw.size(); i++) {
            int[] a = raw.get(i);
            anchors.add(new Anchor(a[0], a[1], a[2], forward[i], back[i]));
        }
        return anchors;
    }

    private int bestForward(List<int[]> raw, int i) {
        int[] a = raw.get(i);
        int until = i + 1 < raw.size() ? raw.get(i + 1)[0] : fresh().length;
        int best = 0;
        int bestWorth = 0;
        for (int f = 0; a[0] + a[2] + f <= until; f++) {
            boolean may = true;
            int sum = 0;
            for (int k = 0; k < f; k++) {
                int p = a[1] + a[2] + k;
                may = may && usable(p);
                sum += worth(a[0] + a[2] + k, p);
            }
            if (may && sum > bestWorth) {
                best = f;
                bestWorth = sum;
            }
        }
        return best;
    }

    private int bestBack(List<int[]> raw, int i) {
        int[] a = raw.get(i);
        int[] ahead = raw.get(i - 1);
        int best = 0;
        int bestWorth = 0;
        for (int b = 0; a[0] - b >= ahead[0] + ahead[2]; b++) {
            boolean may = true;
            int sum = 0;
            for (int k = 1; k <= b; k++) {
                may = may && usable(a[1] - k);
                sum += worth(a[0] - k, a[1] - k);
            }
            if (may && sum > bestWorth) {
                best = b;
                bestWorth = sum;
            }
        }
        return best;
    }

    private void shareOut(List<int[]> raw, int[] forward, int[] back, int i) {
        int[] a = raw.get(i);
        int[] b = raw.get(i + 1);
        List<Integer> both = new ArrayList<>();
        for (int s = 0; s < fresh().length; s++) {
            boolean ones = s >= a[0] + a[2] && s < a[0] + a[2] + forward[i];
            boolean others = s < b[0] && s >= b[0] - back[i + 1];
            if (ones && others) {
                both.add(s);
            }
        }
        if (both.isEmpty()) {
            return;
        }
        int best = -1;
        int bestWorth = 0;
        for (int s = 0; s <= both.size(); s++) {
            int sum = 0;
            for (int k = 0; k < both.size(); k++) {
                int spot = both.get(k);
                sum += k < s ? worth(spot, a[1] + spot - a[0]) : worth(spot, b[1] + spot - b[0]);
            }
            if (best < 0 || sum > bestWorth) {
                best = s;
                bestWorth = sum;
            }
        }
        forward[i] -= both.size() - best;
        back[i + 1] -= best;
    }

    private List<Origin> originsNow(int least) {
        List<Anchor> anchors = anchorsNow(least);
        List<Origin> origins = new ArrayList<>();
        for (int s = 0; s < fresh().length; s++) {
            Origin found = new Origin(-1, fresh()[s]);
            for (Anchor a : anchors) {
                if (s >= a.spot() - a.back() && s < a.spot() + a.size() + a.forward()) {
                    int p = a.place() + s - a.spot();
                    found = new Origin(p, Math.floorMod(fresh()[s] - old()[p], 256));
                }
            }
            origins.add(found);
        }
        return origins;
    }

    private static List<Part> partsOf(List<Origin> origins) {
        List<Part> parts = new ArrayList<>();
        int s = 0;
        while (s < origins.size()) {
            int first = s;
            int copy = 0;
            while (s < origins.size() && !origins.get(s).extra()
                    && (copy == 0 || origins.get(s).place() == origins.get(s - 1).place() + 1)) {
                s++;
                copy++;
            }
            int extra = 0;
            while (s < origins.size() && origins.get(s).extra()) {
                s++;
                extra++;
            }
            parts.add(new Part(copy == 0 ? 0 : origins.get(first).place(), copy, extra, first));
        }
        return parts;
    }

    private static void number(List<Integer> to, int n) {
        if (n >= 128) {
            to.add(128 + (n & 127));
            number(to, n >> 7);
        } else {
            to.add(n);
        }
    }

    private static List<Integer> packed(List<Integer> row) {
        List<Integer> zero = new ArrayList<>(List.of(0));
        zero.addAll(row);
        List<Integer> one = new ArrayList<>(List.of(1));
        List<Integer> rest = new LinkedList<>(row);
        while (!rest.isEmpty()) {
            int zeros = 0;
            while (!rest.isEmpty() && rest.get(0) == 0) {
                rest.remove(0);
                zeros++;
            }
            number(one, zeros);
            List<Integer> others = new ArrayList<>();
            while (!rest.isEmpty() && rest.get(0) != 0) {
                others.add(rest.remove(0));
            }
            if (!others.isEmpty()) {
                number(one, others.size());
                one.addAll(others);
            }
        }
        List<Integer> two = new ArrayList<>(List.of(2));
        rest = new LinkedList<>(row);
        while (!rest.isEmpty()) {
            int value = rest.get(0);
            int same = 0;
            while (!rest.isEmpty() && rest.get(0) == value) {
                rest.remove(0);
                same++;
            }
            number(two, same);
            two.add(value);
        }
        List<Integer> best = zero;
        best = one.size() < best.size() ? one : best;
        best = two.size() < best.size() ? two : best;
        return best;
    }

    private static int[] pack(int oldSize, int oldCheck, int newCheck, List<Origin> origins) {
        List<Integer> to = new ArrayList<>();
        number(to, oldSize);
        number(to, oldCheck);
        number(to, origins.size());
        number(to, newCheck);
        List<Part> parts = partsOf(origins);
        number(to, parts.size());
        for (int i = 0; i < parts.size(); i++) {
            Part part = parts.get(i);
            int less = 0;
            if (i > 0 && parts.get(i - 1).copy() > 0) {
                less = parts.get(i - 1).place() + parts.get(i - 1).copy();
            }
            int seek = part.copy() == 0 ? 0 : part.place() - less;
            number(to, seek >= 0 ? 2 * seek : -2 * seek - 1);
            number(to, part.copy());
            number(to, part.extra());
        }
        List<Integer> differences = new ArrayList<>();
        List<Integer> extras = new ArrayList<>();
        for (Origin o : origins) {
            (o.extra() ? extras : differences).add(o.value());
        }
        to.addAll(packed(differences));
        to.addAll(packed(extras));
        int c = check(ints(to));
        to.add(c / 256);
        to.add(c % 256);
        return ints(to);
    }

    private int[] made(int least) {
        return pack(old().length, check(old()), check(fresh()), originsNow(least));
    }

    // ---- III ----

    private static final class Input {
        final int[] row;
        int at = 0;

        Input(int[] row) {
            this.row = row;
        }

        int one() {
            if (at >= row.length) {
                throw new Flaw(3);
            }
            return row[at++];
        }

        int number() {
            int a = one();
            if (a < 128) {
                return a;
            }
            int b = one();
            if (b >= 128) {
                throw new Flaw(3);
            }
            return (a & 127) | b << 7;
        }

        int way;

        List<Integer> row(int size) {
            way = number();
            if (way > 2) {
                throw new Flaw(5);
            }
            List<Integer> told = new ArrayList<>();
            while (way == 0 && told.size() < size) {
                told.add(one());
            }
            while (way == 1 && told.size() < size) {
                addSome(told, size, true, 0);
                if (told.size() < size) {
                    int n = some(told, size, false);
                    for (int i = 0; i < n; i++) {
                        told.add(one());
                    }
                }
            }
            while (way == 2 && told.size() < size) {
                int n = some(told, size, false);
                int value = one();
                for (int i = 0; i < n; i++) {
                    told.add(value);
                }
            }
            return told;
        }

        private int some(List<Integer> told, int size, boolean zeroToo) {
            int n = number();
            if (n > size - told.size() || n == 0 && !zeroToo) {
                throw new Flaw(5);
            }
            return n;
        }

        private void addSome(List<Integer> told, int size, boolean zeroToo, int value) {
            int n = some(told, size, zeroToo);
            for (int i = 0; i < n; i++) {
                told.add(value);
            }
        }
    }

    /** old is null, if it is READ alone. */
    static Patch read(int[] bytes, int[] old) {
        if (bytes.length < 2) {
            throw new Flaw(1);
        }
        int[] front = Arrays.copyOf(bytes, bytes.length - 2);
        int c = check(front);
        if (bytes[bytes.length - 2] != c / 256 || bytes[bytes.length - 1] != c % 256) {
            throw new Flaw(2);
        }
        Input in = new Input(front);
        int oldSize = sizeNumber(in);
        int oldCheck = in.number();
        if (old != null && (old.length != oldSize || check(old) != oldCheck)) {
            throw new Flaw(4);
        }
        int newSize = sizeNumber(in);
        int newCheck = in.number();
        int many = in.number();
        List<Part> parts = new ArrayList<>();
        int behind = 0;
        int spots = 0;
        for (int i = 0; i < many; i++) {
            int v = in.number();
            int copy = in.number();
            int extra = in.number();
            int seek = (v & 1) == 0 ? v / 2 : -(v + 1) / 2;
            int first = behind + seek;
            if (first < 0 || first + copy > oldSize || spots + copy + extra > newSize) {
                throw new Flaw(5);
            }
            parts.add(new Part(first, copy, extra, spots));
            behind = first + copy;
            spots += copy + extra;
        }
        if (spots < newSize) {
            throw new Flaw(5);
        }
        int copied = parts.stream().mapToInt(Part::copy).sum();
        List<Integer> differences = in.row(copied);
        int way = in.way;
        List<Integer> extras = in.row(newSize - copied);
        if (in.at < front.length) {
            throw new Flaw(6);
        }
        List<Origin> origins = new ArrayList<>();
        for (Part part : parts) {
            for (int k = 0; k < part.copy(); k++) {
                origins.add(new Origin(part.place() + k, differences.remove(0)));
            }
            for (int k = 0; k < part.extra(); k++) {
                origins.add(new Origin(-1, extras.remove(0)));
            }
        }
        if (old != null && check(comesOut(origins, old)) != newCheck) {
            throw new Flaw(7);
        }
        return new Patch(oldSize, oldCheck, newSize, newCheck, parts, origins, way, in.way);
    }

    private static int sizeNumber(Input in) {
        int n = in.number();
        if (n > 64) {
            throw new Flaw(5);
        }
        return n;
    }

    static int[] comesOut(List<Origin> origins, int[] old) {
        int[] out = new int[origins.size()];
        for (int i = 0; i < out.length; i++) {
            Origin o = origins.get(i);
            out[i] = o.extra() ? o.value() : (old[o.place()] + o.value()) % 256;
        }
        return out;
    }

    private Patch readAlone(int slot) {
        if (!has(slot)) {
            return null;
        }
        try {
            return read(slots[slot], null);
        } catch (Flaw f) {
            return null;
        }
    }

    private Patch readFor(int slot) {
        need(slotNumber(slot), -1);
        need(has(slot), -2);
        return readNoting(slots[slot], old());
    }

    private Patch readNoting(int[] bytes, int[] forOld) {
        try {
            Patch patch = read(bytes, forOld);
            flaw = 0;
            return patch;
        } catch (Flaw f) {
            flaw = f.kind;
            throw new Refused(-3);
        }
    }

    private static boolean spoils(Part writer, Part reader) {
        for (int s = writer.spot(); s < writer.spot() + writer.copy(); s++) {
            if (s >= reader.place() && s < reader.place() + reader.copy()) {
                return true;
            }
        }
        return false;
    }

    private static Order orderOf(Patch patch) {
        List<Integer> left = new ArrayList<>();
        for (int i = 0; i < patch.parts().size(); i++) {
            if (patch.parts().get(i).copy() > 0) {
                left.add(i);
            }
        }
        List<Integer> order = new ArrayList<>();
        List<Integer> dropped = new ArrayList<>();
        while (!left.isEmpty()) {
            Integer next = null;
            for (Integer i : left) {
                boolean free = true;
                for (Integer k : left) {
                    free = free && (k.equals(i) || !spoils(patch.parts().get(i), patch.parts().get(k)));
                }
                if (free) {
                    next = i;
                    break;
                }
            }
            if (next != null) {
                order.add(next);
            } else {
                for (Integer i : left) {
                    if (next == null || patch.parts().get(i).copy() < patch.parts().get(next).copy()) {
                        next = i;
                    }
                }
                dropped.add(next);
            }
            left.remove(next);
        }
        return new Order(order, dropped);
    }

    private List<Write> writesOf(Patch patch) {
        List<Write> writes = new ArrayList<>();
        Order order = orderOf(patch);
        Set<Integer> told = new HashSet<>();
        for (int i : order.order()) {
            Part part = patch.parts().get(i);
            List<Write> some = new ArrayList<>();
            for (int k = 0; k < part.copy(); k++) {
                int spot = part.spot() + k;
                some.add(new Write(spot, part.place() + k, patch.origins().get(spot).value()));
                told.add(spot);
            }
            if (part.place() < part.spot()) {
                java.util.Collections.reverse(some);
            }
            writes.addAll(some);
        }
        for (int spot = 0; spot < patch.newSize(); spot++) {
            if (!told.contains(spot)) {
                writes.add(new Write(spot, -1, comesOut(patch.origins(), old())[spot]));
            }
        }
        return writes;
    }

    // ---- the calls, 2 to 11 ----

    public int size(int file) {
        return file < 0 || file > 2 ? -1 : files[file].length;
    }

    public int byteOf(int file, int i) {
        return i < 0 || i >= size(file) ? -1 : files[file][i];
    }

    public int length(int slot) {
        return has(slot) ? slots[slot].length : -1;
    }

    public int patch(int slot, int index) {
        return index < 0 || index >= length(slot) ? -1 : slots[slot][index];
    }

    public int terms(int what, int value) {
        return act(() -> {
            int[][] ranges = {{2, 9}, {0, 9}, {1, 9}, {0, 9}, {1, 6}};
            need(what >= 0 && what <= 4 && value >= ranges[what][0] && value <= ranges[what][1], -1);
            int was = terms[what];
            terms[what] = value;
            return was;
        });
    }

    public int feed(int a, int b, int c, int d, int e) {
        if (tape.size() + 20 > 400) {
            return -1;
        }
        for (int n : new int[] {a, b, c, d, e}) {
            tape.add(n >>> 24);
            tape.add(n >>> 16 & 255);
            tape.add(n >>> 8 & 255);
            tape.add(n & 255);
        }
        return tape.size();
    }

    public int end(int n) {
        if (n < 0 || n > tape.size()) {
            return -1;
        }
        tape = new ArrayList<>(tape.subList(0, n));
        return n;
    }

    public int file(int file) {
        return act(() -> {
            need(file == 0 || file == 1, -1);
            need(run == null, -4);
            need(tape.size() <= 64, -5);
            keep(0);
            files[file] = ints(tape);
            tape.clear();
            return files[file].length;
        });
    }

    public int bring(int slot) {
        return act(() -> {
            need(slotNumber(slot), -1);
            need(!tape.isEmpty(), -4);
            need(tape.size() <= 300, -5);
            keep(1);
            slots[slot] = ints(tape);
            tape.clear();
            return slots[slot].length;
        });
    }

    public int bar(int place, int yes) {
        return act(() -> {
            need(place >= 0 && place <= 63 && (yes == 0 || yes == 1), -1);
            need(barred.contains(place) != (yes == 1), -4);
            keep(2);
            if (yes == 1) {
                barred.add(place);
            } else {
                barred.remove(place);
            }
            return barred.size();
        });
    }

    // ---- recipes ----

    private record Token(String text, int at) { }

    private final class Parser {
        final List<Token> tokens = new ArrayList<>();
        int next = 0;
        int steps = 0;

        Parser(int[] text) {
            int i = 0;
            while (i < text.length) {
                int from = i;
                if (text[i] == 32) {
                    i++;
                    continue;
                }
                i++;
                for (String kind : new String[] {"abcdefghijklmnopqrstuvwxyz", "0123456789"}) {
                    if (kind.indexOf((char) text[from]) >= 0) {
                        while (i < text.length && kind.indexOf((char) text[i]) >= 0) {
                            i++;
                        }
                    }
                }
                StringBuilder token = new StringBuilder();
                for (int k = from; k < i; k++) {
                    token.append((char) text[k]);
                }
                tokens.add(new Token(token.toString(), from));
            }
            tokens.add(new Token("", text.length));
        }

        String peek() {
            return tokens.get(next).text();
        }

        RuntimeException fault() {
            return new Fault(tokens.get(next).at());
        }

        void eat(String text) {
            if (!peek().equals(text)) {
                throw fault();
            }
            next++;
        }

        int number(int least, int most) {
            if (!peek().matches("[0-9]+")) {
                throw fault();
            }
            java.math.BigInteger n = new java.math.BigInteger(peek());
            if (n.compareTo(java.math.BigInteger.valueOf(least)) < 0
                    || n.compareTo(java.math.BigInteger.valueOf(most)) > 0) {
                throw fault();
            }
            next++;
            return n.intValue();
        }

        List<Step> recipe(int depth) {
            List<Step> list = new ArrayList<>();
            list.add(step(depth));
            while (peek().equals(";")) {
                next++;
                list.add(step(depth));
            }
            return list;
        }

        Step step(int depth) {
            int number = steps++;
            if (number >= 24) {
                throw fault();
            }
            String word = peek();
            switch (word) {
                case "take": {
                    next++;
                    int n = number(1, 64);
                    eat("at");
                    int p = number(0, 63);
                    int b = 0;
                    if (peek().equals("by")) {
                        next++;
                        b = number(0, 255);
                    }
                    return new Step(word, number, n, p, b, null, null);
                }
                case "fill": {
                    next++;
                    int n = number(1, 64);
                    eat("with");
                    return new Step(word, number, n, number(0, 255), 0, null, null);
                }
                case "say": {
                    next++;
                    List<Integer> said = new ArrayList<>();
                    said.add(number(0, 255));
                    while (peek().equals(",")) {
                        next++;
                        said.add(number(0, 255));
                    }
                    return new Step(word, number, said.size(), 0, 0, said, null);
                }
                case "again": {
                    next++;
                    int n = number(1, 64);
                    eat("back");
                    return new Step(word, number, n, number(1, 64), 0, null, null);
                }
                case "times": {
                    next++;
                    int t = number(1, 9);
                    if (depth == 4) {
                        throw fault();
                    }
                    eat("(");
                    List<Step> inner = recipe(depth + 1);
                    eat(")");
                    return new Step(word, number, t, 0, 0, null, inner);
                }
                default:
                    throw fault();
            }
        }
    }

    private void runSteps(List<Step> steps, List<Origin> origins) {
        for (Step step : steps) {
            if (step.word().equals("times")) {
                for (int i = 0; i < step.n(); i++) {
                    runSteps(step.inner(), origins);
                }
                continue;
            }
            boolean takes = step.word().equals("take");
            boolean again = step.word().equals("again");
            if (takes && step.a() + step.n() > old().length || again && origins.size() < step.a()) {
                stopped = step.number();
                throw new Refused(-4);
            }
            if (origins.size() + step.n() > 64) {
                stopped = step.number();
                throw new Refused(-5);
            }
            for (int i = 0; i < step.n(); i++) {
                if (takes) {
                    origins.add(new Origin(step.a() + i, step.b()));
                } else if (again) {
                    origins.add(origins.get(origins.size() - step.a()));
                } else if (step.word().equals("fill")) {
                    origins.add(new Origin(-1, step.a()));
                } else {
                    origins.add(new Origin(-1, step.said().get(i)));
                }
            }
        }
    }

    public int recipe(int slot) {
        return act(() -> {
            need(slotNumber(slot), -1);
            int[] text = ints(tape);
            tape.clear();
            fault = -1;
            stopped = -1;
            List<Step> steps;
            try {
                Parser parser = new Parser(text);
                steps = parser.recipe(0);
                parser.eat("");
            } catch (Fault f) {
                fault = f.at;
                throw new Refused(-6);
            }
            List<Origin> origins = new ArrayList<>();
            runSteps(steps, origins);
            int[] patch = pack(old().length, check(old()), check(comesOut(origins, old())), origins);
            keep(3);
            slots[slot] = patch;
            return patch.length;
        });
    }

    public int fault() {
        return fault;
    }

    public int stopped() {
        return stopped;
    }

    // ---- 15 to 18 ----

    private List<Integer> newList() {
        List<Integer> list = new ArrayList<>();
        for (int b : fresh()) {
            list.add(b);
        }
        return list;
    }

    public int set(int spot, int value) {
        return act(() -> {
            need(spot >= 0 && spot < fresh().length && value >= 0 && value <= 255, -1);
            need(fresh()[spot] != value, -4);
            keep(4);
            int was = fresh()[spot];
            files[1] = fresh().clone();
            files[1][spot] = value;
            return was;
        });
    }

    public int cut(int spot, int n) {
        return act(() -> {
            need(spot >= 0 && n >= 1 && (long) spot + n <= fresh().length, -1);
            keep(5);
            List<Integer> list = newList();
            list.subList(spot, spot + n).clear();
            files[1] = ints(list);
            return list.size();
        });
    }

    public int put(int spot, int value) {
        return act(() -> {
            need(spot >= 0 && spot <= fresh().length && value >= 0 && value <= 255, -1);
            need(fresh().length < 64, -5);
            keep(6);
            List<Integer> list = newList();
            list.add(spot, value);
            files[1] = ints(list);
            return list.size();
        });
    }

    public int move(int spot, int n, int to) {
        return act(() -> {
            need(spot >= 0 && n >= 1 && (long) spot + n <= fresh().length, -1);
            need(to >= 0 && (long) n + to <= fresh().length, -1);
            need(to != spot, -4);
            keep(7);
            List<Integer> list = newList();
            List<Integer> some = new ArrayList<>(list.subList(spot, spot + n));
            list.subList(spot, spot + n).clear();
            list.addAll(to, some);
            int others = 0;
            for (int i = 0; i < list.size(); i++) {
                others += list.get(i) == fresh()[i] ? 0 : 1;
            }
            files[1] = ints(list);
            return others;
        });
    }

    // ---- 19 to 33 ----

    private int into(int act, int slot, int[] patch) {
        keep(act);
        slots[slot] = patch;
        return patch.length;
    }

    public int make(int slot) {
        return act(() -> {
            need(slotNumber(slot), -1);
            return into(8, slot, made(terms[0]));
        });
    }

    public int join(int one, int other, int to) {
        return act(() -> {
            need(slotNumber(one) && slotNumber(other) && slotNumber(to), -1);
            need(has(one) && has(other), -2);
            Patch a = readNoting(slots[one], null);
            Patch b = readNoting(slots[other], null);
            need(a.newSize() == b.oldSize() && a.newCheck() == b.oldCheck(), -4);
            List<Origin> origins = new ArrayList<>();
            for (Origin o : b.origins()) {
                if (o.extra()) {
                    origins.add(o);
                } else {
                    Origin from = a.origins().get(o.place());
                    origins.add(new Origin(from.place(), (from.value() + o.value()) % 256));
                }
            }
            return into(9, to, pack(a.oldSize(), a.oldCheck(), b.newCheck(), origins));
        });
    }

    public int turn(int slot, int to) {
        return act(() -> {
            need(slotNumber(slot) && slotNumber(to), -1);
            Patch patch = readFor(slot);
            int[] out = comesOut(patch.origins(), old());
            List<Origin> origins = new ArrayList<>();
            for (int p = 0; p < old().length; p++) {
                Origin found = new Origin(-1, old()[p]);
                for (int s = 0; s < out.length && found.extra(); s++) {
                    if (patch.origins().get(s).place() == p) {
                        found = new Origin(s, Math.floorMod(old()[p] - out[s], 256));
                    }
                }
                origins.add(found);
            }
            return into(10, to, pack(out.length, check(out), check(old()), origins));
        });
    }

    public int apply(int slot) {
        return act(() -> {
            Patch patch = readFor(slot);
            keep(11);
            files[2] = comesOut(patch.origins(), old());
            loads = 0;
            most = 0;
            LinkedList<Integer> held = new LinkedList<>();
            for (int time = 0; time < 2; time++) {
                for (Part part : patch.parts()) {
                    for (int k = 0; k < part.copy(); k++) {
                        Integer page = (part.place() + k) / 8;
                        if (!held.remove(page)) {
                            loads++;
                            if (held.size() == terms[4]) {
                                held.removeFirst();
                            }
                        }
                        held.addLast(page);
                        most = Math.max(most, held.size());
                    }
                }
            }
            return files[2].length;
        });
    }

    public int flaw() {
        return flaw;
    }

    public int loaded(int what) {
        return what == 0 ? loads : what == 1 ? most : -1;
    }

    public int begin(int slot) {
        return act(() -> {
            Patch patch = readFor(slot);
            need(run == null, -4);
            keep(12);
            run = writesOf(patch);
            runEnd = patch.newSize();
            if (runEnd > old().length) {
                files[0] = Arrays.copyOf(old(), runEnd);
            }
            overIfNoneLeft();
            return runEnd;
        });
    }

    private void overIfNoneLeft() {
        if (run.isEmpty()) {
            run = null;
            files[0] = Arrays.copyOf(old(), runEnd);
        }
    }

    public int write(int n) {
        return act(() -> {
            need(n >= 1, -1);
            need(run != null, -4);
            keep(13);
            files[0] = old().clone();
            for (int i = 0; i < n && !run.isEmpty(); i++) {
                Write w = run.remove(0);
                old()[w.to()] = w.from() < 0 ? w.add() : (old()[w.from()] + w.add()) % 256;
            }
            overIfNoneLeft();
            return run == null ? 0 : run.size();
        });
    }

    public int left() {
        return run == null ? -1 : run.size();
    }

    public int spoil(int slot, int index, int value) {
        return act(() -> {
            need(slotNumber(slot) && index >= 0 && index <= 299 && value >= 0 && value <= 255, -1);
            need(has(slot), -2);
            need(index < slots[slot].length && slots[slot][index] != value, -4);
            int was = slots[slot][index];
            keep(14);
            slots[slot] = slots[slot].clone();
            slots[slot][index] = value;
            return was;
        });
    }

    static int[] sealed(int[] bytes) {
        int[] done = bytes.clone();
        int c = check(Arrays.copyOf(bytes, bytes.length - 2));
        done[done.length - 2] = c / 256;
        done[done.length - 1] = c % 256;
        return done;
    }

    public int seal(int slot) {
        return act(() -> {
            need(slotNumber(slot), -1);
            need(has(slot), -2);
            need(slots[slot].length >= 2, -4);
            keep(15);
            int[] was = slots[slot];
            slots[slot] = sealed(was);
            return Arrays.equals(was, slots[slot]) ? 0 : 1;
        });
    }

    public int drop(int slot) {
        return act(() -> {
            need(slotNumber(slot), -1);
            need(has(slot), -2);
            keep(16);
            int had = slots[slot].length;
            slots[slot] = null;
            return had;
        });
    }

    public int swap() {
        return act(() -> {
            need(run == null, -4);
            keep(17);
            int[] o = files[0];
            files[0] = files[1];
            files[1] = o;
            return files[0].length;
        });
    }

    public int advance() {
        return act(() -> {
            need(run == null, -4);
            keep(18);
            files[0] = files[2];
            return files[0].length;
        });
    }

    public int undo() {
        return act(() -> {
            need(!past.isEmpty(), -4);
            Kept kept = past.removeLast();
            files = kept.files().clone();
            slots = kept.slots().clone();
            barred = new HashSet<>(kept.barred());
            run = kept.run() == null ? null : new ArrayList<>(kept.run());
            runEnd = kept.runEnd();
            return kept.act();
        });
    }

    // ---- 34 to 39 ----

    public int sorted(int k, int what) {
        List<Integer> places = sortedPlaces();
        if (k < 0 || k >= places.size() || what < 0 || what > 2) {
            return -1;
        }
        if (what == 0) {
            return places.get(k);
        }
        List<Integer> tail = tail(places.get(k));
        return what == 1 ? tail.size() : k == 0 ? 0 : common(tail, tail(places.get(k - 1)));
    }

    public int kinds(int n) {
        if (n < 1 || n > 64) {
            return -1;
        }
        Set<List<Integer>> rows = new HashSet<>();
        for (int p : tailPlaces()) {
            if (tail(p).size() >= n) {
                rows.add(tail(p).subList(0, n));
            }
        }
        return rows.size();
    }

    public int repeated(int what) {
        int longest = 0;
        int lowest = -1;
        for (int p : tailPlaces()) {
            for (int q : tailPlaces()) {
                int n = p == q ? 0 : common(tail(p), tail(q));
                if (n > longest) {
                    longest = n;
                    lowest = p;
                }
            }
        }
        return what == 0 ? longest : what == 1 ? lowest : -1;
    }

    public int match(int spot, int what) {
        if (spot < 0 || spot >= fresh().length || what < 0 || what > 2) {
            return -1;
        }
        return matchOf(spot)[what];
    }

    public int anchor(int i, int what) {
        List<Anchor> anchors = anchorsNow(terms[0]);
        if (i < 0 || i >= anchors.size() || what < 0 || what > 4) {
            return -1;
        }
        Anchor a = anchors.get(i);
        return new int[] {a.spot(), a.place(), a.size(), a.forward(), a.back()}[what];
    }

    public int origin(int spot, int what) {
        if (spot < 0 || spot >= fresh().length || what < 0 || what > 1) {
            return -1;
        }
        Origin o = originsNow(terms[0]).get(spot);
        return what == 0 ? o.place() : o.value();
    }

    // ---- 40 to 54 ----

    public int parts(int slot) {
        Patch patch = readAlone(slot);
        return patch == null ? -1 : patch.parts().size();
    }

    public int part(int slot, int i, int what) {
        Patch patch = readAlone(slot);
        if (patch == null || i < 0 || i >= patch.parts().size() || what < 0 || what > 2) {
            return -1;
        }
        Part part = patch.parts().get(i);
        return what == 0 ? part.copy() == 0 ? -1 : part.place() : what == 1 ? part.copy() : part.extra();
    }

    public int way(int slot, int what) {
        Patch patch = readAlone(slot);
        return patch == null ? -1 : what == 0 ? patch.differenceWay() : what == 1 ? patch.extraWay() : -1;
    }

    public int order(int slot, int i) {
        Patch patch = readAlone(slot);
        if (patch == null) {
            return -1;
        }
        List<Integer> order = orderOf(patch).order();
        return i < 0 || i >= order.size() ? -1 : order.get(i);
    }

    public int dropped(int slot, int what) {
        Patch patch = readAlone(slot);
        if (patch == null || what < 0 || what > 1) {
            return -1;
        }
        List<Integer> dropped = orderOf(patch).dropped();
        return what == 0 ? dropped.size() : dropped.stream().mapToInt(i -> patch.parts().get(i).copy()).sum();
    }

    private static int flawFor(int[] bytes, int[] old) {
        try {
            read(bytes, old);
            return 0;
        } catch (Flaw f) {
            return f.kind;
        }
    }

    public int flawOf(int slot) {
        return has(slot) ? flawFor(slots[slot], old()) : -1;
    }

    private int cheapestFrom(int spot, int latest, Map<Integer, Integer> known) {
        if (spot == fresh().length) {
            return 0;
        }
        int key = spot * 100 + latest + 1;
        if (known.containsKey(key)) {
            return known.get(key);
        }
        int best = 2 + cheapestFrom(spot + 1, -1, known);
        for (int p : tailPlaces()) {
            int cost = (fresh()[spot] == old()[p] ? 0 : 1) + (latest >= 0 && p == latest + 1 ? 0 : 3);
            best = Math.min(best, cost + cheapestFrom(spot + 1, p, known));
        }
        known.put(key, best);
        return best;
    }

    public int cheapest(int what) {
        if (what == 0) {
            return cheapestFrom(0, -1, new HashMap<>());
        }
        if (what != 1) {
            return -1;
        }
        int cost = 0;
        Origin ahead = null;
        for (Origin o : originsNow(terms[0])) {
            if (o.extra()) {
                cost += 2;
            } else {
                cost += o.value() == 0 ? 0 : 1;
                cost += ahead != null && !ahead.extra() && ahead.place() == o.place() - 1 ? 0 : 3;
            }
            ahead = o;
        }
        return cost;
    }

    public int apart() {
        int[][] far = new int[old().length + 1][fresh().length + 1];
        for (int i = 0; i <= old().length; i++) {
            for (int k = 0; k <= fresh().length; k++) {
                int best = i + k;
                if (i > 0) {
                    best = Math.min(best, far[i - 1][k] + 1);
                }
                if (k > 0) {
                    best = Math.min(best, far[i][k - 1] + 1);
                }
                if (i > 0 && k > 0) {
                    best = Math.min(best, far[i - 1][k - 1] + (old()[i - 1] == fresh()[k - 1] ? 0 : 1));
                }
                far[i][k] = best;
            }
        }
        return far[old().length][fresh().length];
    }

    private static int stayFrom(List<Part> parts, int i, int behind, Map<Integer, Integer> known) {
        if (i == parts.size()) {
            return 0;
        }
        int key = i * 100 + behind;
        if (known.containsKey(key)) {
            return known.get(key);
        }
        int best = stayFrom(parts, i + 1, behind, known);
        Part part = parts.get(i);
        if (part.copy() > 0 && part.place() >= behind) {
            best = Math.max(best, part.copy() + stayFrom(parts, i + 1, part.place() + part.copy(), known));
        }
        known.put(key, best);
        return best;
    }

    public int stay(int slot) {
        Patch patch = readAlone(slot);
        return patch == null ? -1 : stayFrom(patch.parts(), 0, 0, new HashMap<>());
    }

    public int save(int slot, int what) {
        if (!has(slot) || what < 0 || what > 2) {
            return -1;
        }
        int ways = 0;
        int index = -1;
        int value = -1;
        int[] bytes = slots[slot].clone();
        for (int i = 0; i < bytes.length; i++) {
            int was = bytes[i];
            for (int v = 0; v < 256; v++) {
                bytes[i] = v;
                if (v != was && flawFor(bytes, old()) == 0) {
                    if (ways == 0) {
                        index = i;
                        value = v;
                    }
                    ways++;
                }
            }
            bytes[i] = was;
        }
        return what == 0 ? ways : what == 1 ? index : value;
    }

    private String listingOf(Patch patch) {
        List<String> steps = new ArrayList<>();
        for (Part part : patch.parts()) {
            int k = 0;
            while (k < part.copy()) {
                int first = k;
                int value = patch.origins().get(part.spot() + k).value();
                while (k < part.copy() && patch.origins().get(part.spot() + k).value() == value) {
                    k++;
                }
                steps.add("take " + (k - first) + " at " + (part.place() + first) + (value == 0 ? "" : " by " + value));
            }
            List<String> said = new ArrayList<>();
            for (k = 0; k < part.extra(); k++) {
                said.add("" + patch.origins().get(part.spot() + part.copy() + k).value());
            }
            if (!said.isEmpty()) {
                steps.add("say " + String.join(",", said));
            }
        }
        return String.join(";", steps);
    }

    public int listed(int slot) {
        Patch patch = readAlone(slot);
        return patch == null ? -1 : listingOf(patch).length();
    }

    public int listing(int slot, int i) {
        Patch patch = readAlone(slot);
        return patch == null || i < 0 || i >= listingOf(patch).length() ? -1 : listingOf(patch).charAt(i);
    }

    public int best(int what) {
        int least = -1;
        int fewest = 0;
        for (int n = 2; n <= 9; n++) {
            int bytes = made(n).length;
            if (least < 0 || bytes < fewest) {
                least = n;
                fewest = bytes;
            }
        }
        return what == 0 ? least : what == 1 ? fewest : -1;
    }

    public int count(int what) {
        if (what >= 7 && what <= 12) {
            return refusals[what - 7];
        }
        if (what >= 13 && what <= 17) {
            return terms[what - 13];
        }
        int alike = 0;
        for (int i = 0; i < Math.min(old().length, fresh().length); i++) {
            alike += old()[i] == fresh()[i] ? 1 : 0;
        }
        switch (what) {
            case 0:
                return anchorsNow(terms[0]).size();
            case 1:
                return partsOf(originsNow(terms[0])).size();
            case 2:
                return made(terms[0]).length;
            case 3:
                return barred.size();
            case 4:
                return alike;
            case 5:
                return past.size();
            case 6:
                return tape.size();
            default:
                return -1;
        }
    }

    public int status() {
        return status;
    }
}
