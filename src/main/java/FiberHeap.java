import java.util.Arrays;

/** The memory of a small runtime: fibers, channels, a heap of spans and a collector that marks in pieces. */
public final class FiberHeap {
    public static final int NIL = -1;
    public static final int NONE = -1;
    public static final int FULL = -2;
    public static final int WAITS = 4;

    private static final int FIBERS = 6;
    private static final int CELLS = 4;
    private static final int MOST_FRAMES = 16;
    private static final int FIRST_ROOM = 2;

    private static final int GONE = 0;
    private static final int READY = 1;
    private static final int SENDING = 2;
    private static final int TAKING = 3;

    private static final int CHANNELS = 4;

    private static final int PAGES = 16;
    private static final int PAGE_WORDS = 16;
    private static final int HEAP_WORDS = PAGES * PAGE_WORDS;
    private static final int MOST_WORDS = 64;

    // Every slot begins at an even address, so what is known of an object is kept at half its address.
    private static final int UNIT_WORDS = 2;
    private static final int UNITS = HEAP_WORDS / UNIT_WORDS;
    private static final int PAGE_UNITS = PAGE_WORDS / UNIT_WORDS;

    private static final int FREE_PAGE = 0;
    private static final int LATER_PAGE = 1;
    private static final int SMALLEST_SPAN = 2;

    private static final int PLAIN = 0;
    private static final int NEW = 1;
    private static final int DUE = 2;

    private static final int LEAST_TRIGGER = 64;

    // Each piece scans another fiber or looks at another object: no marking has more of them.
    private static final int MOST_PIECES = FIBERS + UNITS;

    private final Heap heap;
    private final Fiber[] fibers;
    private final Channel[] channels;
    private final Collector collector;
    private int nextTicket;

    public FiberHeap() {
        heap = new Heap();
        fibers = new Fiber[FIBERS];
        for (int f = 0; f < FIBERS; f++) {
            fibers[f] = new Fiber();
        }
        channels = new Channel[CHANNELS];
        for (int c = 0; c < CHANNELS; c++) {
            channels[c] = new Channel(c);
        }
        collector = new Collector(heap, fibers, channels);
        nextTicket = 0;
        fibers[0].beginToLive(NIL);
    }

    public int spawn(int f, int k) {
        Fiber parent = readyFiber(f);
        int child = lowestGoneFiber();
        if (parent == null || !parent.isSource(k) || child == NONE) {
            return NONE;
        }
        fibers[child].beginToLive(parent.pointerFrom(k));
        return child;
    }

    public boolean end(int f) {
        if (!lives(f) || livingFibers() == 1) {
            return false;
        }
        fibers[f].state = GONE;
        return true;
    }

    public boolean wake(int f) {
        if (!lives(f) || fibers[f].state == READY) {
            return false;
        }
        fibers[f].state = READY;
        return true;
    }

    public boolean call(int f) {
        Fiber fiber = readyFiber(f);
        if (fiber == null || fiber.frames >= MOST_FRAMES) {
            return false;
        }
        fiber.addFrame();
        return true;
    }

    public boolean leave(int f) {
        Fiber fiber = readyFiber(f);
        if (fiber == null || fiber.frames <= 1) {
            return false;
        }
        fiber.dropFrame();
        return true;
    }

    public boolean aim(int f, int k) {
        Fiber fiber = readyFiber(f);
        if (fiber == null || k < 0 || k >= CELLS) {
            return false;
        }
        fiber.refs[fiber.frames - 1] = fiber.cellIndex(k);
        return true;
    }

    public boolean copy(int f, int to, int from) {
        Fiber fiber = readyFiber(f);
        if (fiber == null || !fiber.isCell(to) || !fiber.isSource(from)) {
            return false;
        }
        fiber.fillCell(to, fiber.pointerFrom(from));
        return true;
    }

    public int make(int f, int k, int words, int pointers) {
        Fiber fiber = readyFiber(f);
        if (fiber == null || !fiber.isCell(k)) {
            return NONE;
        }
        if (words < 1 || words > MOST_WORDS || pointers < 0 || pointers > words) {
            return NONE;
        }
        collector.workBeforePlacing(Heap.slotWordsFor(words));
        int address = placeAtAnyCost(words, pointers);
        if (address == NIL) {
            return FULL;
        }
        collector.fresh += Heap.slotWordsFor(words);
        fiber.fillCell(k, address);
        return address;
    }

    public boolean set(int f, int k, int w, int from) {
        Fiber fiber = readyFiber(f);
        if (fiber == null || !fiber.isCell(k) || !fiber.isSource(from)) {
            return false;
        }
        int address = fiber.pointerFrom(k);
        if (!heap.isPointerWord(address, w)) {
            return false;
        }
        int after = fiber.pointerFrom(from);
        collector.note(heap.words[address + w]);
        collector.note(after);
        heap.words[address + w] = after;
        return true;
    }

    public boolean get(int f, int to, int k, int w) {
        Fiber fiber = readyFiber(f);
        if (fiber == null || !fiber.isCell(to) || !fiber.isCell(k)) {
            return false;
        }
        int address = fiber.pointerFrom(k);
        if (!heap.isPointerWord(address, w)) {
            return false;
        }
        fiber.fillCell(to, heap.words[address + w]);
        return true;
    }

    public boolean store(int f, int k, int w, int v) {
        int index = intWordIndex(f, k, w);
        if (index == NONE) {
            return false;
        }
        heap.words[index] = v;
        return true;
    }

    public int load(int f, int k, int w) {
        int index = intWordIndex(f, k, w);
        return index == NONE ? 0 : heap.words[index];
    }

    public int send(int f, int k, int c) {
        Fiber sender = readyFiber(f);
        if (sender == null || !sender.isCell(k) || !isChannel(c)) {
            return NONE;
        }
        int pointer = sender.pointerFrom(k);
        Fiber taker = firstWaiting(TAKING, c);
        if (taker != null) {
            collector.note(pointer);
            taker.endTaking(pointer, c);
            return c;
        }
        if (channels[c].hasSpace()) {
            collector.note(pointer);
            channels[c].addLast(pointer);
            return c;
        }
        sender.beginToWait(SENDING, k, c, c, newTicket());
        return WAITS;
    }

    public int take(int f, int k, int c, int d) {
        Fiber taker = readyFiber(f);
        if (taker == null || !taker.isCell(k) || !isChannel(c) || !isChannel(d)) {
            return NONE;
        }
        int giver = canGive(c) ? c : d;
        if (!canGive(giver)) {
            taker.beginToWait(TAKING, k, c, d, newTicket());
            return WAITS;
        }
        taker.fillCell(k, pointerOutOf(giver));
        taker.tookFrom = giver;
        return giver;
    }

    public int mark(int n) {
        return n < 1 || !collector.marking ? 0 : collector.work(n);
    }

    public int sweep(int n) {
        return heap.sweepSpans(n);
    }

    public boolean collect() {
        if (collector.marking) {
            return false;
        }
        collector.beginCycle();
        return true;
    }

    public int fiber(int f, int what) {
        if (f < 0 || f >= FIBERS) {
            return NONE;
        }
        Fiber fiber = fibers[f];
        if (what == 0) {
            return fiber.state;
        }
        if (fiber.state == GONE) {
            return NONE;
        }
        switch (what) {
            case 1: return fiber.frames;
            case 2: return fiber.room;
            case 3: return collector.marking && fiber.scanned ? 1 : 0;
            case 4: case 5: case 6: case 7: return fiber.pointerFrom(what - 4);
            case 8: return fiber.refs[fiber.frames - 1];
            case 9: return fiber.tookFrom;
            default: return NONE;
        }
    }

    public int count(int what) {
        switch (what) {
            case 0: return heap.takenSlots();
            case 1: return heap.takenWords();
            case 2: return heap.freePages();
            case 3: return heap.longestRun();
            case 4: return collector.marking ? 1 : 0;
            case 5: return heap.unsweptSpans();
            case 6: return collector.cycles;
            case 7: return collector.pieces;
            case 8: return copiedFrames();
            case 9: return collector.fresh;
            case 10: return collector.trigger;
            case 11: return heap.freed;
            default: return NONE;
        }
    }

    public int page(int p) {
        return p < 0 || p >= PAGES ? NONE : heap.pages[p];
    }

    private boolean lives(int f) {
        return f >= 0 && f < FIBERS && fibers[f].state != GONE;
    }

    private Fiber readyFiber(int f) {
        return lives(f) && fibers[f].state == READY ? fibers[f] : null;
    }

    private int livingFibers() {
        int living = 0;
        for (int f = 0; f < FIBERS; f++) {
            if (lives(f)) {
                living++;
            }
        }
        return living;
    }

    private int lowestGoneFiber() {
        for (int f = 0; f < FIBERS; f++) {
            if (!lives(f)) {
                return f;
            }
        }
        return NONE;
    }

    private int copiedFrames() {
        int copied = 0;
        for (int f = 0; f < FIBERS; f++) {
            copied += fibers[f].copied;
        }
        return copied;
    }

    private int placeAtAnyCost(int words, int pointers) {
        int address = heap.place(words, pointers, collector.markOfPlaced());
        if (address == NIL) {
            collector.finishMarking();
            heap.sweepSpans(PAGES);
            address = heap.place(words, pointers, PLAIN);
        }
        if (address == NIL) {
            collector.beginCycle();
            collector.finishMarking();
            heap.sweepSpans(PAGES);
            address = heap.place(words, pointers, PLAIN);
        }
        return address;
    }

    private int intWordIndex(int f, int k, int w) {
        Fiber fiber = readyFiber(f);
        if (fiber == null || !fiber.isCell(k)) {
            return NONE;
        }
        int address = fiber.pointerFrom(k);
        return heap.isIntWord(address, w) ? address + w : NONE;
    }

    private static boolean isChannel(int c) {
        return c >= 0 && c < CHANNELS;
    }

    private int newTicket() {
        return nextTicket++;
    }

    private Fiber firstWaiting(int state, int c) {
        Fiber first = null;
        for (int f = 0; f < FIBERS; f++) {
            Fiber fiber = fibers[f];
            if (fiber.waitsAt(state, c) && (first == null || fiber.ticket < first.ticket)) {
                first = fiber;
            }
        }
        return first;
    }

    private boolean canGive(int c) {
        return channels[c].held > 0 || firstWaiting(SENDING, c) != null;
    }

    private int pointerOutOf(int c) {
        Fiber sender = firstWaiting(SENDING, c);
        int sent = sender == null ? NIL : sender.endSending();
        collector.note(sent);
        Channel channel = channels[c];
        if (channel.held == 0) {
            return sent;
        }
        int given = channel.removeFirst();
        if (sender != null) {
            channel.addLast(sent);
        }
        return given;
    }

    private static final class Fiber {
        final int[] cells;
        final int[] refs;
        int state;
        int frames;
        int room;
        // Outlives the fiber: count() tells of the copies of all that ever lived.
        int copied;
        boolean scanned;
        int tookFrom;
        int waitCell;
        int waitChannel;
        int otherWaitChannel;
        int ticket;

        Fiber() {
            cells = new int[MOST_FRAMES * CELLS];
            refs = new int[MOST_FRAMES];
            state = GONE;
            frames = 1;
            room = FIRST_ROOM;
            tookFrom = NONE;
        }

        void beginToLive(int pointer) {
            state = READY;
            frames = 1;
            room = FIRST_ROOM;
            scanned = false;
            tookFrom = NONE;
            cells[0] = pointer;
            for (int k = 1; k < CELLS; k++) {
                cells[k] = NIL;
            }
            refs[0] = NONE;
        }

        int cellIndex(int k) {
            if (k >= 0 && k < CELLS) {
                return (frames - 1) * CELLS + k;
            }
            return k == CELLS ? refs[frames - 1] : NONE;
        }

        boolean isCell(int k) {
            return cellIndex(k) != NONE;
        }

        boolean isSource(int k) {
            return k == NIL || isCell(k);
        }

        int pointerFrom(int k) {
            int index = cellIndex(k);
            return index == NONE ? NIL : cells[index];
        }

        void fillCell(int k, int pointer) {
            int index = cellIndex(k);
            if (index != NONE) {
                cells[index] = pointer;
            }
        }

        void addFrame() {
            if (frames == room) {
                moveTo(room * 2);
            }
            System.arraycopy(cells, (frames - 1) * CELLS, cells, frames * CELLS, CELLS);
            refs[frames] = refs[frames - 1];
            frames++;
        }

        void dropFrame() {
            int answer = cells[(frames - 1) * CELLS];
            frames--;
            cells[(frames - 1) * CELLS] = answer;
        }

        void shrinkRoom() {
            if (room > FIRST_ROOM && frames * 4 <= room) {
                moveTo(room / 2);
            }
        }

        // The room is a number alone: the rows are long enough for every stack, and a copy can be seen only in its count.
        private void moveTo(int newRoom) {
            room = newRoom;
            copied += frames;
        }

        void beginToWait(int newState, int k, int channel, int otherChannel, int newTicket) {
            state = newState;
            waitCell = cellIndex(k);
            waitChannel = channel;
            otherWaitChannel = otherChannel;
            ticket = newTicket;
        }

        boolean waitsAt(int wantedState, int channel) {
            return state == wantedState && (waitChannel == channel || otherWaitChannel == channel);
        }

        int endSending() {
            state = READY;
            return cells[waitCell];
        }

        void endTaking(int pointer, int channel) {
            state = READY;
            cells[waitCell] = pointer;
            tookFrom = channel;
        }
    }

    private static final class Channel {
        final int[] pointers;
        int held;

        Channel(int most) {
            pointers = new int[most];
            held = 0;
        }

        boolean hasSpace() {
            return held < pointers.length;
        }

        void addLast(int pointer) {
            if (hasSpace()) {
                pointers[held] = pointer;
                held++;
            }
        }

        int removeFirst() {
            if (held == 0) {
                return NIL;
            }
            int first = pointers[0];
            held--;
            for (int i = 0; i < held; i++) {
                pointers[i] = pointers[i + 1];
            }
            return first;
        }
    }

    private static final class Heap {
        final int[] words;
        // Each page as page() tells it.
        final int[] pages;
        final boolean[] unswept;
        final int[] sizes;
        final int[] pointerCounts;
        // After marking, what is not PLAIN was kept; an object placed at rest stands in a swept span, so its mark is not asked.
        final int[] marks;
        int freed;

        Heap() {
            words = new int[HEAP_WORDS];
            pages = new int[PAGES];
            unswept = new boolean[PAGES];
            sizes = new int[UNITS];
            pointerCounts = new int[UNITS];
            marks = new int[UNITS];
            freed = 0;
        }

        static int slotWordsFor(int size) {
            if (size <= 2) {
                return 2;
            }
            if (size <= 4) {
                return 4;
            }
            if (size <= 8) {
                return 8;
            }
            return (size + PAGE_WORDS - 1) / PAGE_WORDS * PAGE_WORDS;
        }

        private static int pagesOfSpan(int slotWords) {
            return Math.max(1, slotWords / PAGE_WORDS);
        }

        boolean isPointerWord(int address, int w) {
            return address >= 0 && address < HEAP_WORDS && w >= 0 && w < pointerCounts[address / UNIT_WORDS];
        }

        boolean isIntWord(int address, int w) {
            return address >= 0 && address < HEAP_WORDS
                && w >= pointerCounts[address / UNIT_WORDS] && w < sizes[address / UNIT_WORDS];
        }

        int place(int size, int pointerWords, int mark) {
            int slotWords = slotWordsFor(size);
            int address = slotWords < PAGE_WORDS ? slotInSpans(slotWords) : NIL;
            if (address == NIL) {
                address = slotInNewSpan(slotWords);
            }
            if (address != NIL) {
                fillSlot(address, size, pointerWords, mark);
            }
            return address;
        }

        private int slotInSpans(int slotWords) {
            for (int p = 0; p < PAGES; p++) {
                if (pages[p] == slotWords) {
                    if (unswept[p]) {
                        sweepSpan(p);
                    }
                    int address = openSlot(p, slotWords);
                    if (address != NIL) {
                        return address;
                    }
                }
            }
            return NIL;
        }

        private int openSlot(int p, int slotWords) {
            // The sweep may have left the page free: then it is a span no more.
            if (pages[p] != slotWords || slotWords < SMALLEST_SPAN) {
                return NIL;
            }
            int start = p * PAGE_WORDS;
            for (int offset = 0; offset < PAGE_WORDS; offset += slotWords) {
                if (sizes[(start + offset) / UNIT_WORDS] == 0) {
                    return start + offset;
                }
            }
            return NIL;
        }

        private int slotInNewSpan(int slotWords) {
            int need = pagesOfSpan(slotWords);
            int start = shortestRun(need);
            if (start == NONE) {
                return NIL;
            }
            fillPages(start, need, LATER_PAGE);
            pages[start] = slotWords;
            return start * PAGE_WORDS;
        }

        private int shortestRun(int need) {
            int best = NONE;
            int bestLength = PAGES + 1;
            int length = 0;
            for (int p = 0; p < PAGES; p++) {
                length = pages[p] == FREE_PAGE ? length + 1 : 0;
                if (endsRun(p) && length >= need && length < bestLength) {
                    best = p - length + 1;
                    bestLength = length;
                }
            }
            return best;
        }

        private boolean endsRun(int p) {
            return pages[p] == FREE_PAGE && (p + 1 == PAGES || pages[p + 1] != FREE_PAGE);
        }

        private void fillSlot(int address, int size, int pointerWords, int mark) {
            sizes[address / UNIT_WORDS] = size;
            pointerCounts[address / UNIT_WORDS] = pointerWords;
            marks[address / UNIT_WORDS] = mark;
            for (int w = 0; w < size; w++) {
                words[address + w] = w < pointerWords ? NIL : 0;
            }
        }

        int sweepSpans(int most) {
            int swept = 0;
            for (int p = 0; p < PAGES && swept < most; p++) {
                if (unswept[p]) {
                    sweepSpan(p);
                    swept++;
                }
            }
            return swept;
        }

        private void sweepSpan(int p) {
            unswept[p] = false;
            int taken = 0;
            for (int unit = p * PAGE_UNITS; unit < (p + 1) * PAGE_UNITS; unit++) {
                if (sizes[unit] != 0 && marks[unit] == PLAIN) {
                    sizes[unit] = 0;
                    pointerCounts[unit] = 0;
                    freed++;
                }
                if (sizes[unit] != 0) {
                    taken++;
                }
            }
            if (taken == 0) {
                fillPages(p, pagesOfSpan(pages[p]), FREE_PAGE);
            }
        }

        private void fillPages(int start, int length, int value) {
            for (int p = start; p < start + length && p < PAGES; p++) {
                pages[p] = value;
            }
        }

        void leaveAllUnswept() {
            for (int p = 0; p < PAGES; p++) {
                unswept[p] = pages[p] >= SMALLEST_SPAN;
            }
        }

        int takenSlots() {
            int taken = 0;
            for (int unit = 0; unit < UNITS; unit++) {
                if (sizes[unit] != 0) {
                    taken++;
                }
            }
            return taken;
        }

        int takenWords() {
            int taken = 0;
            for (int unit = 0; unit < UNITS; unit++) {
                if (sizes[unit] != 0) {
                    taken += slotWordsFor(sizes[unit]);
                }
            }
            return taken;
        }

        int keptWords() {
            int kept = 0;
            for (int unit = 0; unit < UNITS; unit++) {
                if (sizes[unit] != 0 && marks[unit] != PLAIN) {
                    kept += slotWordsFor(sizes[unit]);
                }
            }
            return kept;
        }

        int freePages() {
            int free = 0;
            for (int p = 0; p < PAGES; p++) {
                if (pages[p] == FREE_PAGE) {
                    free++;
                }
            }
            return free;
        }

        int longestRun() {
            int longest = 0;
            int length = 0;
            for (int p = 0; p < PAGES; p++) {
                length = pages[p] == FREE_PAGE ? length + 1 : 0;
                longest = Math.max(longest, length);
            }
            return longest;
        }

        int unsweptSpans() {
            int spans = 0;
            for (int p = 0; p < PAGES; p++) {
                if (unswept[p]) {
                    spans++;
                }
            }
            return spans;
        }
    }

    private static final class Collector {
        private final Heap heap;
        private final Fiber[] fibers;
        private final Channel[] channels;
        // The objects known to be DUE and not looked at. A DUE object that is not known yet hangs on one of these,
        // and set() notes what it takes away, so none is left when this row is empty.
        private final int[] pending;
        private int pendingCount;
        boolean marking;
        int cycles;
        int pieces;
        int fresh;
        int trigger;

        Collector(Heap itsHeap, Fiber[] itsFibers, Channel[] itsChannels) {
            heap = itsHeap;
            fibers = itsFibers;
            channels = itsChannels;
            pending = new int[UNITS];
            pendingCount = 0;
            marking = false;
            cycles = 0;
            pieces = 0;
            fresh = 0;
            trigger = LEAST_TRIGGER;
        }

        void beginCycle() {
            heap.sweepSpans(PAGES);
            cycles++;
            marking = true;
            pendingCount = 0;
            Arrays.fill(heap.marks, PLAIN);
            for (int f = 0; f < FIBERS; f++) {
                fibers[f].scanned = false;
            }
            for (int c = 0; c < CHANNELS; c++) {
                for (int i = 0; i < channels[c].held; i++) {
                    note(channels[c].pointers[i]);
                }
            }
        }

        void workBeforePlacing(int slotWords) {
            if (!marking && fresh >= trigger) {
                beginCycle();
            }
            if (marking) {
                work(slotWords);
            }
        }

        int markOfPlaced() {
            return marking ? NEW : PLAIN;
        }

        void finishMarking() {
            if (marking) {
                work(MOST_PIECES);
            }
        }

        int work(int most) {
            int bound = Math.min(most, MOST_PIECES);
            int done = 0;
            while (done < bound && workIsLeft()) {
                doPiece();
                done++;
            }
            pieces += done;
            if (!workIsLeft()) {
                endMarking();
            }
            return done;
        }

        void note(int pointer) {
            if (!marking || pointer < 0 || pointer >= HEAP_WORDS) {
                return;
            }
            int unit = pointer / UNIT_WORDS;
            if (heap.marks[unit] == PLAIN && pendingCount < UNITS) {
                heap.marks[unit] = DUE;
                pending[pendingCount] = pointer;
                pendingCount++;
            }
        }

        private boolean workIsLeft() {
            return pendingCount > 0 || nextToScan() != null;
        }

        private Fiber nextToScan() {
            for (int f = 0; f < FIBERS; f++) {
                if (fibers[f].state != GONE && !fibers[f].scanned) {
                    return fibers[f];
                }
            }
            return null;
        }

        private void doPiece() {
            Fiber fiber = nextToScan();
            if (fiber != null) {
                scan(fiber);
            } else if (pendingCount > 0) {
                pendingCount--;
                lookAt(pending[pendingCount]);
            }
        }

        private void scan(Fiber fiber) {
            for (int i = 0; i < fiber.frames * CELLS; i++) {
                note(fiber.cells[i]);
            }
            fiber.scanned = true;
            fiber.shrinkRoom();
        }

        private void lookAt(int address) {
            int pointerWords = heap.pointerCounts[address / UNIT_WORDS];
            for (int w = 0; w < pointerWords; w++) {
                note(heap.words[address + w]);
            }
        }

        private void endMarking() {
            marking = false;
            heap.leaveAllUnswept();
            fresh = 0;
            trigger = Math.max(LEAST_TRIGGER, heap.keptWords() / 2);
        }
    }
}
