import java.util.ArrayDeque;
import java.util.ArrayList;
import java.util.Comparator;
import java.util.LinkedHashSet;
import java.util.List;
import java.util.Set;

/**
 * The document said again as plainly as the Java library allows, with no care for speed: frames refer to cells as
 * objects, waiting fibers stand in queues, and what is DUE is worked out anew whenever it is asked.
 */
final class Model {
    private static final int NONE = -1;

    static final class Cell {
        Thing holds;
    }

    static final class Frame {
        final Cell[] cells = {new Cell(), new Cell(), new Cell(), new Cell()};
        Cell ref;
    }

    static final class Strand {
        boolean lives;
        boolean scanned;
        int room;
        int tookFrom;
        final List<Frame> frames = new ArrayList<>();
        Cell sendsFrom;
        Cell takesInto;

        boolean ready() {
            return lives && sendsFrom == null && takesInto == null;
        }

        Frame newest() {
            return frames.get(frames.size() - 1);
        }

        Cell cell(int k) {
            return k >= 0 && k <= 3 ? newest().cells[k] : k == 4 ? newest().ref : null;
        }
    }

    static final class Thing {
        int address;
        Span span;
        Thing[] pointers;
        int[] ints;
    }

    static final class Span {
        int page;
        int pages;
        int slotWords;
        Thing[] slots;
        boolean unswept;
    }

    private final Strand[] fibers = new Strand[6];
    private final List<List<Thing>> channels = new ArrayList<>();
    private final List<List<Strand>> senders = new ArrayList<>();
    private final List<List<Strand>> takers = new ArrayList<>();
    private final List<Span> spans = new ArrayList<>();

    private boolean marking;
    private final Set<Thing> noted = new LinkedHashSet<>();
    private final Set<Thing> lookedAt = new LinkedHashSet<>();
    private final Set<Thing> fresh = new LinkedHashSet<>();
    private final Set<Thing> kept = new LinkedHashSet<>();
    private int freshWords = 0;
    private int trigger = 64;
    private int cycles;
    private int pieces;
    private int copied;
    private int freed;

    Model() {
        for (int f = 0; f < 6; f++) {
            fibers[f] = new Strand();
        }
        for (int c = 0; c < 4; c++) {
            channels.add(new ArrayList<>());
            senders.add(new ArrayList<>());
            takers.add(new ArrayList<>());
        }
        startFiber(fibers[0], null);
    }

    private void startFiber(Strand fiber, Thing holds) {
        fiber.lives = true;
        fiber.scanned = false;
        fiber.room = 2;
        fiber.tookFrom = NONE;
        fiber.frames.clear();
        fiber.frames.add(new Frame());
        fiber.newest().cells[0].holds = holds;
    }

    private Strand ready(int f) {
        return f >= 0 && f <= 5 && fibers[f].ready() ? fibers[f] : null;
    }

    private void stopWaiting(Strand fiber) {
        for (int c = 0; c < 4; c++) {
            senders.get(c).remove(fiber);
            takers.get(c).remove(fiber);
        }
        fiber.sendsFrom = null;
        fiber.takesInto = null;
    }

    // ---- the heap

    private static int slotWords(int words) {
        if (words <= 2) {
            return 2;
        }
        if (words <= 4) {
            return 4;
        }
        if (words <= 8) {
            return 8;
        }
        int pages = 1;
        while (pages * 16 < words) {
            pages++;
        }
        return pages * 16;
    }

    private Span spanOf(int page) {
        for (Span s : spans) {
            if (s.page <= page && page < s.page + s.pages) {
                return s;
            }
        }
        return null;
    }

    private void sweepSpan(Span s) {
        boolean any = false;
        for (int i = 0; i < s.slots.length; i++) {
            if (s.slots[i] != null && !kept.contains(s.slots[i])) {
                s.slots[i] = null;
                freed++;
            }
            any = any || s.slots[i] != null;
        }
        s.unswept = false;
        if (!any) {
            spans.remove(s);
        }
    }

    private int sweepUpTo(int n) {
        int done = 0;
        for (Span s : new ArrayList<>(spans)) {
            if (done < n && s.unswept) {
                sweepSpan(s);
                done++;
            }
        }
        return done;
    }

    private List<int[]> runs() {
        List<int[]> all = new ArrayList<>();
        for (int p = 0; p < 16; p++) {
            if (spanOf(p) == null) {
                int length = 0;
                while (p + length < 16 && spanOf(p + length) == null) {
                    length++;
                }
                all.add(new int[] {p, length});
                p += length;
            }
        }
        return all;
    }

    private Thing placeIn(Span s, int words, int pointers) {
        for (int i = 0; i < s.slots.length; i++) {
            if (s.slots[i] == null) {
                Thing made = new Thing();
                made.address = s.page * 16 + i * s.slotWords;
                made.span = s;
                made.pointers = new Thing[pointers];
                made.ints = new int[words - pointers];
                s.slots[i] = made;
                if (marking) {
                    fresh.add(made);
                }
                return made;
            }
        }
        return null;
    }

    private Thing place(int words, int pointers) {
        int slot = slotWords(words);
        if (slot < 16) {
            for (Span s : new ArrayList<>(spans)) {
                if (s.slotWords == slot) {
                    if (s.unswept) {
                        sweepSpan(s);
                    }
                    Thing made = spans.contains(s) ? placeIn(s, words, pointers) : null;
                    if (made != null) {
                        return made;
                    }
                }
            }
        }
        int need = slot < 16 ? 1 : slot / 16;
        int[] best = null;
        for (int[] run : runs()) {
            if (run[1] >= need && (best == null || run[1] < best[1])) {
                best = run;
            }
        }
        if (best == null) {
            return null;
        }
        Span s = new Span();
        s.page = best[0];
        s.pages = need;
        s.slotWords = slot;
        s.slots = new Thing[slot < 16 ? 16 / slot : 1];
        spans.add(s);
        spans.sort(Comparator.comparingInt(x -> x.page));
        return placeIn(s, words, pointers);
    }

    // ---- the collector

    private void note(Thing t) {
        if (marking && t != null) {
            noted.add(t);
        }
    }

    private void beginCycle() {
        sweepUpTo(16);
        cycles++;
        marking = true;
        noted.clear();
        lookedAt.clear();
        fresh.clear();
        for (Strand f : fibers) {
            f.scanned = false;
        }
        for (List<Thing> channel : channels) {
            for (Thing t : channel) {
                note(t);
            }
        }
    }

    private Set<Thing> due() {
        Set<Thing> due = new LinkedHashSet<>();
        ArrayDeque<Thing> open = new ArrayDeque<>(noted);
        while (!open.isEmpty()) {
            Thing t = open.poll();
            if (!fresh.contains(t) && due.add(t)) {
                for (Thing child : t.pointers) {
                    if (child != null) {
                        open.add(child);
                    }
                }
            }
        }
        return due;
    }

    private boolean piece() {
        for (Strand f : fibers) {
            if (f.lives && !f.scanned) {
                f.scanned = true;
                for (Frame frame : f.frames) {
                    for (Cell cell : frame.cells) {
                        note(cell.holds);
                    }
                }
                if (f.frames.size() <= f.room / 4.0 && f.room > 2) {
                    f.room /= 2;
                    copied += f.frames.size();
                }
                return true;
            }
        }
        for (Thing t : due()) {
            if (lookedAt.add(t)) {
                return true;
            }
        }
        return false;
    }

    private boolean workIsLeft() {
        for (Strand f : fibers) {
            if (f.lives && !f.scanned) {
                return true;
            }
        }
        return !lookedAt.containsAll(due());
    }

    private int work(int n) {
        int done = 0;
        while (done < n && piece()) {
            done++;
        }
        pieces += done;
        if (!workIsLeft()) {
            kept.clear();
            kept.addAll(fresh);
            kept.addAll(due());
            int words = 0;
            for (Thing t : kept) {
                words += t.span.slotWords;
            }
            for (Span s : spans) {
                s.unswept = true;
            }
            freshWords = 0;
            trigger = Math.max(64, words / 2);
            marking = false;
            fresh.clear();
        }
        return done;
    }

    // ---- the face

    int spawn(int f, int k) {
        Strand parent = ready(f);
        if (parent == null || k != -1 && parent.cell(k) == null) {
            return NONE;
        }
        for (int i = 0; i < 6; i++) {
            if (!fibers[i].lives) {
                startFiber(fibers[i], k == -1 ? null : parent.cell(k).holds);
                return i;
            }
        }
        return NONE;
    }

    boolean end(int f) {
        int living = 0;
        for (Strand t : fibers) {
            living += t.lives ? 1 : 0;
        }
        if (f < 0 || f > 5 || !fibers[f].lives || living == 1) {
            return false;
        }
        stopWaiting(fibers[f]);
        fibers[f].lives = false;
        return true;
    }

    boolean wake(int f) {
        if (f < 0 || f > 5 || !fibers[f].lives || fibers[f].ready()) {
            return false;
        }
        stopWaiting(fibers[f]);
        return true;
    }

    boolean call(int f) {
        Strand fiber = ready(f);
        if (fiber == null || fiber.frames.size() == 16) {
            return false;
        }
        if (fiber.frames.size() + 1 > fiber.room) {
            fiber.room *= 2;
            copied += fiber.frames.size();
        }
        Frame before = fiber.newest();
        Frame added = new Frame();
        for (int k = 0; k < 4; k++) {
            added.cells[k].holds = before.cells[k].holds;
        }
        added.ref = before.ref;
        fiber.frames.add(added);
        return true;
    }

    boolean leave(int f) {
        Strand fiber = ready(f);
        if (fiber == null || fiber.frames.size() == 1) {
            return false;
        }
        Frame gone = fiber.frames.remove(fiber.frames.size() - 1);
        fiber.newest().cells[0].holds = gone.cells[0].holds;
        return true;
    }

    boolean aim(int f, int k) {
        Strand fiber = ready(f);
        if (fiber == null || k < 0 || k > 3) {
            return false;
        }
        fiber.newest().ref = fiber.newest().cells[k];
        return true;
    }

    boolean copy(int f, int to, int from) {
        Strand fiber = ready(f);
        if (fiber == null || fiber.cell(to) == null || from != -1 && fiber.cell(from) == null) {
            return false;
        }
        fiber.cell(to).holds = from == -1 ? null : fiber.cell(from).holds;
        return true;
    }

    int make(int f, int k, int words, int pointers) {
        Strand fiber = ready(f);
        if (fiber == null || fiber.cell(k) == null || words < 1 || words > 64 || pointers < 0 || pointers > words) {
            return NONE;
        }
        if (!marking && freshWords >= trigger) {
            beginCycle();
        }
        if (marking) {
            work(slotWords(words));
        }
        Thing made = place(words, pointers);
        if (made == null) {
            if (marking) {
                work(Integer.MAX_VALUE);
            }
            sweepUpTo(16);
            made = place(words, pointers);
        }
        if (made == null) {
            beginCycle();
            work(Integer.MAX_VALUE);
            sweepUpTo(16);
            made = place(words, pointers);
        }
        if (made == null) {
            return -2;
        }
        freshWords += made.span.slotWords;
        fiber.cell(k).holds = made;
        return made.address;
    }

    private Thing thing(int f, int k) {
        Strand fiber = ready(f);
        return fiber == null || fiber.cell(k) == null ? null : fiber.cell(k).holds;
    }

    boolean set(int f, int k, int w, int from) {
        Thing t = thing(f, k);
        if (t == null || w < 0 || w >= t.pointers.length || from != -1 && fibers[f].cell(from) == null) {
            return false;
        }
        note(t.pointers[w]);
        t.pointers[w] = from == -1 ? null : fibers[f].cell(from).holds;
        note(t.pointers[w]);
        return true;
    }

    boolean get(int f, int to, int k, int w) {
        Thing t = thing(f, k);
        if (t == null || w < 0 || w >= t.pointers.length || fibers[f].cell(to) == null) {
            return false;
        }
        fibers[f].cell(to).holds = t.pointers[w];
        return true;
    }

    boolean store(int f, int k, int w, int v) {
        Thing t = thing(f, k);
        if (t == null || w < t.pointers.length || w >= t.pointers.length + t.ints.length) {
            return false;
        }
        t.ints[w - t.pointers.length] = v;
        return true;
    }

    int load(int f, int k, int w) {
        Thing t = thing(f, k);
        if (t == null || w < t.pointers.length || w >= t.pointers.length + t.ints.length) {
            return 0;
        }
        return t.ints[w - t.pointers.length];
    }

    int send(int f, int k, int c) {
        Strand fiber = ready(f);
        if (fiber == null || fiber.cell(k) == null || c < 0 || c > 3) {
            return NONE;
        }
        Thing sent = fiber.cell(k).holds;
        if (!takers.get(c).isEmpty()) {
            Strand taker = takers.get(c).get(0);
            taker.takesInto.holds = sent;
            taker.tookFrom = c;
            note(sent);
            stopWaiting(taker);
            return c;
        }
        if (channels.get(c).size() < c) {
            channels.get(c).add(sent);
            note(sent);
            return c;
        }
        fiber.sendsFrom = fiber.cell(k);
        senders.get(c).add(fiber);
        return 4;
    }

    int take(int f, int k, int c, int d) {
        Strand fiber = ready(f);
        if (fiber == null || fiber.cell(k) == null || c < 0 || c > 3 || d < 0 || d > 3) {
            return NONE;
        }
        for (int from : new int[] {c, d}) {
            List<Thing> channel = channels.get(from);
            Strand sender = senders.get(from).isEmpty() ? null : senders.get(from).get(0);
            if (!channel.isEmpty() || sender != null) {
                Thing sent = sender == null ? null : sender.sendsFrom.holds;
                note(sent);
                if (sender != null) {
                    channel.add(sent);
                    stopWaiting(sender);
                }
                fiber.cell(k).holds = channel.remove(0);
                fiber.tookFrom = from;
                return from;
            }
        }
        fiber.takesInto = fiber.cell(k);
        takers.get(c).add(fiber);
        if (d != c) {
            takers.get(d).add(fiber);
        }
        return 4;
    }

    int mark(int n) {
        return n < 1 || !marking ? 0 : work(n);
    }

    int sweep(int n) {
        return sweepUpTo(n);
    }

    boolean collect() {
        if (marking) {
            return false;
        }
        beginCycle();
        return true;
    }

    private static int address(Thing t) {
        return t == null ? NONE : t.address;
    }

    int fiber(int f, int what) {
        if (f < 0 || f > 5 || what < 0 || what > 9) {
            return NONE;
        }
        Strand fiber = fibers[f];
        if (what == 0) {
            return !fiber.lives ? 0 : fiber.sendsFrom != null ? 2 : fiber.takesInto != null ? 3 : 1;
        }
        if (!fiber.lives) {
            return NONE;
        }
        switch (what) {
            case 1: return fiber.frames.size();
            case 2: return fiber.room;
            case 3: return marking && fiber.scanned ? 1 : 0;
            case 8: return whereRefers(fiber);
            case 9: return fiber.tookFrom;
            default: return address(fiber.newest().cells[what - 4].holds);
        }
    }

    private static int whereRefers(Strand fiber) {
        for (int i = 0; i < fiber.frames.size(); i++) {
            for (int k = 0; k < 4; k++) {
                if (fiber.frames.get(i).cells[k] == fiber.newest().ref) {
                    return 4 * i + k;
                }
            }
        }
        return NONE;
    }

    int count(int what) {
        int slots = 0;
        int words = 0;
        int unswept = 0;
        for (Span s : spans) {
            unswept += s.unswept ? 1 : 0;
            for (Thing t : s.slots) {
                slots += t == null ? 0 : 1;
                words += t == null ? 0 : s.slotWords;
            }
        }
        int free = 0;
        int longest = 0;
        for (int[] run : runs()) {
            free += run[1];
            longest = Math.max(longest, run[1]);
        }
        int[] answers = {slots, words, free, longest, marking ? 1 : 0, unswept, cycles, pieces, copied, freshWords,
            trigger, freed};
        return what < 0 || what >= answers.length ? NONE : answers[what];
    }

    int page(int p) {
        if (p < 0 || p > 15) {
            return NONE;
        }
        Span s = spanOf(p);
        return s == null ? 0 : s.page == p ? s.slotWords : 1;
    }

    /** Whether every pointer that a living fiber or a channel can come by leads to an object that is there. */
    boolean isSound() {
        Set<Thing> seen = new LinkedHashSet<>();
        ArrayDeque<Thing> open = new ArrayDeque<>();
        for (Strand f : fibers) {
            if (f.lives) {
                for (Frame frame : f.frames) {
                    for (Cell cell : frame.cells) {
                        if (cell.holds != null) {
                            open.add(cell.holds);
                        }
                    }
                }
            }
        }
        for (List<Thing> channel : channels) {
            for (Thing t : channel) {
                if (t != null) {
                    open.add(t);
                }
            }
        }
        while (!open.isEmpty()) {
            Thing t = open.poll();
            if (seen.add(t)) {
                int slot = (t.address - t.span.page * 16) / t.span.slotWords;
                if (!spans.contains(t.span) || t.span.slots[slot] != t) {
                    return false;
                }
                for (Thing child : t.pointers) {
                    if (child != null) {
                        open.add(child);
                    }
                }
            }
        }
        return true;
    }
}
