import java.util.Arrays;

/** Machines that say of words whether they take them. What each call answers is promised, by number, in DOC.md. */
public final class StateShop {
    public static final int NONE = -1, OUTSIDE = -102, STATE = -103, ROOM = -104;

    private static final int SLOTS = 6;
    private static final int MOST_LETTERS = 4;
    private static final int MOST_STATES = 60;
    private static final int MOST_SETS = 500;
    private static final int MOST_PAIRS = MOST_STATES * MOST_STATES;
    private static final int MOST_MAPPINGS = 400;
    private static final int MOST_BYTES = 500;
    private static final int MOST_OPEN = 30;
    private static final int LONGEST_WORD = 30;
    private static final int FIRST_FAULT = -1000;

    // Two numbers below 64 in one: a power of two, so that they are parted again without dividing.
    private static final int SHIFT = 6;
    private static final int LOW = (1 << SHIFT) - 1;
    private static final int CODES = MOST_STATES << SHIFT;
    private static final int BUCKET_BITS = 9;
    private static final int BUCKETS = 1 << BUCKET_BITS;

    private static final int BOTH = 0, EITHER = 1, WITHOUT = 2, JUST_ONE = 3, THEN = 4, AGAIN = 5, TURNED = 6, NOT = 7;
    private static final int BY_ROUNDS = 0, BY_SPLITTERS = 1, BY_TURNING = 2;

    private final Machine[] slots;
    private final Tape tape;
    private final Workshop workshop;
    private final Reader reader;
    private final WordCount counts;
    private final MappingTable table;

    public StateShop() {
        slots = new Machine[SLOTS];
        for (int i = 0; i < SLOTS; i++) {
            slots[i] = new Machine(MOST_STATES);
        }
        tape = new Tape();
        workshop = new Workshop();
        reader = new Reader(workshop, tape);
        counts = new WordCount();
        table = new MappingTable();
    }

    public int make(int slot, int k, int n) {
        if (!isSlot(slot) || !isAlphabet(k) || n < 1 || n > MOST_STATES) {
            return OUTSIDE;
        }
        slots[slot].reset(k, n);
        return 1;
    }

    public int edge(int slot, int state, int letter, int to) {
        if (!isState(slot, state) || !isState(slot, to) || !slots[slot].hasLetter(letter)) {
            return OUTSIDE;
        }
        int before = slots[slot].next(state, letter);
        slots[slot].lead(state, letter, to);
        return before;
    }

    public int accept(int slot, int state, boolean on) {
        if (!isState(slot, state)) {
            return OUTSIDE;
        }
        int before = asNumber(slots[slot].ends[state]);
        slots[slot].ends[state] = on;
        return before;
    }

    public int start(int slot, int state) {
        if (!isState(slot, state)) {
            return OUTSIDE;
        }
        int before = slots[slot].first;
        slots[slot].first = state;
        return before;
    }

    public int about(int slot, int what) {
        if (!isSlot(slot)) {
            return OUTSIDE;
        }
        switch (what) {
            case 0: return slots[slot].letters;
            case 1: return slots[slot].states;
            case 2: return slots[slot].first;
            case 3: return slots[slot].countEnds();
            default: return OUTSIDE;
        }
    }

    public int to(int slot, int state, int letter) {
        if (!isState(slot, state)) {
            return OUTSIDE;
        }
        if (letter == NONE) {
            return asNumber(slots[slot].ends[state]);
        }
        return slots[slot].hasLetter(letter) ? slots[slot].next(state, letter) : OUTSIDE;
    }

    public int order(int slot) {
        if (!isSlot(slot)) {
            return OUTSIDE;
        }
        workshop.arrange(slots[slot]);
        slots[slot].copyOf(workshop.raw);
        return slots[slot].states;
    }

    public int smaller(int slot, int way) {
        if (!isSlot(slot) || way < BY_ROUNDS || way > BY_TURNING) {
            return OUTSIDE;
        }
        return workshop.shrink(slots[slot], way);
    }

    public int join(int slot, int how, int a, int b) {
        if (!isSlot(slot) || how < BOTH || how > NOT || !isSlot(a)) {
            return OUTSIDE;
        }
        if (how >= AGAIN) {
            // b is not asked: it need not be a slot, nor have as many letters.
            return workshop.combine(slots[slot], how, slots[a], slots[a]);
        }
        int wrong = pairFault(a, b);
        return wrong != 0 ? wrong : workshop.combine(slots[slot], how, slots[a], slots[b]);
    }

    public int feed(int a, int b, int c, int d, int e) {
        if (tape.length + 20 > MOST_BYTES) {
            return ROOM;
        }
        tape.addNumber(a);
        tape.addNumber(b);
        tape.addNumber(c);
        tape.addNumber(d);
        tape.addNumber(e);
        return tape.length;
    }

    public int end(int n) {
        if (n < 0 || n > tape.length) {
            return OUTSIDE;
        }
        tape.length = n;
        return 1;
    }

    public int read(int slot, int k) {
        if (!isSlot(slot) || !isAlphabet(k)) {
            return OUTSIDE;
        }
        int answer = reader.evaluate(k);
        tape.length = 0;
        if (answer > 0) {
            slots[slot].copyOf(reader.result());
        }
        return answer;
    }

    public int takes(int slot) {
        if (!isSlot(slot) || !tape.isWordOf(slots[slot])) {
            return OUTSIDE;
        }
        return asNumber(slots[slot].ends[tape.walk(slots[slot])]);
    }

    public int same(int a, int b) {
        int wrong = pairFault(a, b);
        if (wrong != 0) {
            return wrong;
        }
        return workshop.tellApart(slots[a], slots[a].first, slots[b], slots[b].first, tape) ? 0 : 1;
    }

    public int apart(int slot, int p, int q) {
        if (!isState(slot, p) || !isState(slot, q)) {
            return OUTSIDE;
        }
        return workshop.tellApart(slots[slot], p, slots[slot], q, tape) ? tape.length : NONE;
    }

    public long words(int slot, int length) {
        if (!isSlot(slot) || length < 0 || length > LONGEST_WORD) {
            return NONE;
        }
        return counts.ofLength(slots[slot], length);
    }

    public int word(int slot, long i) {
        if (!isSlot(slot) || i < 0) {
            return OUTSIDE;
        }
        return counts.spell(slots[slot], i, tape);
    }

    public long number(int slot) {
        if (!isSlot(slot) || tape.length > LONGEST_WORD || !tape.isWordOf(slots[slot])) {
            return NONE;
        }
        if (!slots[slot].ends[tape.walk(slots[slot])]) {
            return NONE;
        }
        return counts.rank(slots[slot], tape);
    }

    public int octet(int k) {
        return k >= 0 && k < tape.length ? tape.octets[k] : NONE;
    }

    public int bytes() {
        return tape.length;
    }

    public int mappings(int slot) {
        if (!isSlot(slot)) {
            return OUTSIDE;
        }
        workshop.makeSmallest(slots[slot], table.small);
        return table.findAll();
    }

    public int maps(int i, int state) {
        if (i < 0 || i >= table.count || !table.small.hasState(state)) {
            return OUTSIDE;
        }
        return table.image(i, state);
    }

    public int mapping(int what) {
        if (what < 0 || what > 4) {
            return OUTSIDE;
        }
        if (table.count == 0) {
            return NONE;
        }
        switch (what) {
            case 0: return table.countIdempotent();
            case 1: return asNumber(table.allSettle());
            case 2: return asNumber(table.allCommute());
            case 3: return table.countWithImages(1);
            default: return table.countWithImages(table.small.states);
        }
    }

    private static int asNumber(boolean yes) {
        return yes ? 1 : 0;
    }

    private static boolean isSlot(int slot) {
        return slot >= 0 && slot < SLOTS;
    }

    private static boolean isAlphabet(int k) {
        return k >= 1 && k <= MOST_LETTERS;
    }

    private boolean isState(int slot, int state) {
        return isSlot(slot) && slots[slot].hasState(state);
    }

    /** 0, if a and b are slots with the same letters. */
    private int pairFault(int a, int b) {
        if (!isSlot(a) || !isSlot(b)) {
            return OUTSIDE;
        }
        return slots[a].letters == slots[b].letters ? 0 : STATE;
    }

    /** A machine in rows that are made once, for the most states that it can ever have. */
    private static final class Machine {
        final int[] ways;
        final boolean[] ends;
        int letters = 1;
        int states = 1;
        int first;

        Machine(int most) {
            ways = new int[Math.max(most, 1) * MOST_LETTERS];
            ends = new boolean[Math.max(most, 1)];
        }

        void reset(int k, int n) {
            letters = k;
            states = n;
            first = 0;
            for (int s = 0; s < n; s++) {
                ends[s] = false;
                leadAll(s, s);
            }
        }

        boolean hasState(int state) {
            return state >= 0 && state < states;
        }

        boolean hasLetter(int letter) {
            return letter >= 0 && letter < letters;
        }

        int next(int state, int letter) {
            return ways[state * letters + letter];
        }

        void lead(int state, int letter, int target) {
            ways[state * letters + letter] = target;
        }

        void leadAll(int state, int target) {
            for (int l = 0; l < letters; l++) {
                lead(state, l, target);
            }
        }

        int countEnds() {
            int found = 0;
            for (int s = 0; s < states; s++) {
                if (ends[s]) {
                    found++;
                }
            }
            return found;
        }

        /** The accepting states as bits; for machines of at most MOST_STATES states. */
        long endSet() {
            long set = 0;
            for (int s = 0; s < states; s++) {
                if (ends[s]) {
                    set |= 1L << s;
                }
            }
            return set;
        }

        void copyOf(Machine m) {
            if (m.states > ends.length) {
                return;
            }
            letters = m.letters;
            states = m.states;
            first = m.first;
            System.arraycopy(m.ways, 0, ways, 0, states * letters);
            for (int s = 0; s < states; s++) {
                ends[s] = m.ends[s];
            }
        }
    }

    /** The tape: bytes 0 .. 255, that of letter l being 'a' + l. */
    private static final class Tape {
        final int[] octets = new int[MOST_BYTES];
        int length;

        void addNumber(int number) {
            for (int shift = 24; shift >= 0 && length < MOST_BYTES; shift -= 8) {
                octets[length] = number >>> shift & 255;
                length++;
            }
        }

        void setLetter(int place, int letter) {
            if (place >= 0 && place < MOST_BYTES) {
                octets[place] = 'a' + letter;
            }
        }

        int letter(int place) {
            return octets[place] - 'a';
        }

        boolean isWordOf(Machine m) {
            for (int i = 0; i < length; i++) {
                if (!m.hasLetter(letter(i))) {
                    return false;
                }
            }
            return true;
        }

        /** The state that the word comes to; only for words of the machine. */
        int walk(Machine m) {
            int state = m.first;
            for (int i = 0; i < length; i++) {
                state = m.next(state, letter(i));
            }
            return state;
        }
    }

    /** Sets of states (as bits), each with a state that goes before it, numbered as they are met. */
    private static final class SetRow {
        final long[] sets = new long[MOST_SETS];
        final int[] leaders = new int[MOST_SETS];
        private final int[] older = new int[MOST_SETS];
        private final int[] newest = new int[BUCKETS];
        int count;

        void clear() {
            Arrays.fill(newest, NONE);
            count = 0;
        }

        /** The number of a set, which may be new; NONE, if it is one too many. */
        int numberOf(int leader, long set) {
            // The high bits of the product depend on all bits of the set.
            int bucket = (int) (((set + leader) * 0x9E3779B97F4A7C15L) >>> (64 - BUCKET_BITS));
            int i = newest[bucket];
            for (int left = count; left > 0 && i >= 0; left--) {
                if (sets[i] == set && leaders[i] == leader) {
                    return i;
                }
                i = older[i];
            }
            if (count >= MOST_SETS) {
                return NONE;
            }
            sets[count] = set;
            leaders[count] = leader;
            older[count] = newest[bucket];
            newest[bucket] = count;
            count++;
            return count - 1;
        }
    }

    /** The classes of states that no word tells apart, found by rounds, numbered by their least states. */
    private static final class Classes {
        private final int[] now = new int[MOST_PAIRS];
        private final int[] old = new int[MOST_PAIRS];
        private final int[] stamps = new int[CODES];
        private final int[] names = new int[CODES];
        private int stamp;
        private int count;
        int rounds;

        /** Puts the smallest machine of m, which is in order: its states, or ROOM. */
        int reduce(Machine m, Machine target) {
            begin(m);
            int before = 0;
            // From two classes on, each round but the last makes more: MOST_STATES rounds are never needed.
            for (rounds = 0; count > before && count <= MOST_STATES && rounds < MOST_STATES; rounds++) {
                before = count;
                System.arraycopy(now, 0, old, 0, m.states);
                // Classes never become fewer, so too many of them are a reason to stop early.
                for (int l = 0; l < m.letters && count <= MOST_STATES; l++) {
                    divideBy(m, l);
                }
            }
            if (count > MOST_STATES) {
                return ROOM;
            }
            put(m, target);
            return count;
        }

        private void begin(Machine m) {
            count = 1;
            for (int s = 0; s < m.states; s++) {
                now[s] = asNumber(m.ends[s] != m.ends[0]);
                if (now[s] == 1) {
                    count = 2;
                }
            }
        }

        private void divideBy(Machine m, int letter) {
            // A new stamp makes the names of all codes unknown again, without a walk over them.
            stamp++;
            int found = 0;
            for (int s = 0; s < m.states && found <= MOST_STATES; s++) {
                int code = now[s] << SHIFT | old[m.ways[s * m.letters + letter]];
                if (stamps[code] != stamp) {
                    stamps[code] = stamp;
                    names[code] = found;
                    found++;
                }
                now[s] = names[code];
            }
            count = found;
        }

        /**
         * Puts the classes as states. m is in order, so a class's least state is met by the least word that comes
         * to the class: the classes, numbered by their least states, are in order too.
         */
        private void put(Machine m, Machine target) {
            target.letters = m.letters;
            target.states = count;
            target.first = 0;
            int done = 0;
            for (int s = 0; s < m.states && done < count; s++) {
                if (now[s] == done) {
                    target.ends[done] = m.ends[s];
                    for (int l = 0; l < m.letters; l++) {
                        target.lead(done, l, now[m.next(s, l)]);
                    }
                    done++;
                }
            }
        }
    }

    /** Makes machines from machines. All come into being in raw, in order (START 0), and are put as the smallest ones. */
    private static final class Workshop {
        final Machine raw = new Machine(MOST_PAIRS);
        private final Machine arranged = new Machine(MOST_STATES);
        private final Machine nothing = new Machine(1);
        private final Machine everything = new Machine(1);
        private final SetRow met = new SetRow();
        private final Classes classes = new Classes();
        private final int[] codes = new int[MOST_PAIRS];
        private final int[] numbers = new int[CODES];
        private final int[] origins = new int[MOST_PAIRS];
        private final long[] setsAhead = new long[MOST_LETTERS];

        Workshop() {
            nothing.reset(MOST_LETTERS, 1);
            everything.reset(MOST_LETTERS, 1);
            everything.ends[0] = true;
        }

        /** Brings a machine in order, into raw. */
        void arrange(Machine m) {
            pair(EITHER, m, m.first, nothing, 0);
        }

        /** Puts the smallest machine of m into a target, which may be m. */
        void makeSmallest(Machine m, Machine target) {
            arrange(m);
            classes.reduce(raw, target);
        }

        /** There is just one smallest machine, so all ways put that of the rounds, and tell what is theirs. */
        int shrink(Machine m, int way) {
            int turnedStates = way == BY_TURNING ? countTurned(m) : 0;
            if (turnedStates == ROOM) {
                return ROOM;
            }
            makeSmallest(m, m);
            switch (way) {
                case BY_ROUNDS: return classes.rounds;
                case BY_SPLITTERS: return countSplitters(m);
                default: return turnedStates;
            }
        }

        /**
         * A pair for each letter comes into the row with the second block and with each one that is divided off,
         * whichever block it names; all pairs are taken; and in the end there is a block for each smallest state.
         */
        private static int countSplitters(Machine smallest) {
            return smallest.letters * (smallest.states - 1);
        }

        /** Turning a second time is not needed for ROOM: it gives the smallest machine, so at most MOST_STATES sets. */
        private int countTurned(Machine m) {
            arrange(m);
            arranged.copyOf(raw);
            return gather(TURNED, arranged, arranged) ? raw.states : ROOM;
        }

        /** Puts a joined machine: its states, or ROOM. The target may be a or b. */
        int combine(Machine target, int how, Machine a, Machine b) {
            if (how <= JUST_ONE) {
                pair(how, a, a.first, b, b.first);
            } else if (how == NOT) {
                pair(WITHOUT, everything, 0, a, a.first);
            } else if (!gather(how, a, b)) {
                return ROOM;
            }
            return classes.reduce(raw, target);
        }

        /** Whether two states are told apart; then the least word that does so comes on the tape. */
        boolean tellApart(Machine a, int p, Machine b, int q, Tape tape) {
            pair(JUST_ONE, a, p, b, q);
            for (int s = 0; s < raw.states; s++) {
                if (raw.ends[s]) {
                    spellWayTo(s, tape);
                    return true;
                }
            }
            return false;
        }

        /** Origins have lower numbers than what is met from them, so every way back ends at state 0. */
        private void spellWayTo(int state, Tape tape) {
            int length = 0;
            for (int s = state; s > 0 && length < MOST_BYTES; s = origins[s] / MOST_LETTERS) {
                length++;
            }
            tape.length = length;
            int at = state;
            for (int i = length - 1; i >= 0; i--) {
                tape.setLetter(i, origins[at] % MOST_LETTERS);
                at = origins[at] / MOST_LETTERS;
            }
        }

        /** The pairs of states that are met from (p, q). nothing and everything have letters enough for any partner. */
        private void pair(int how, Machine a, int p, Machine b, int q) {
            forgetPairs(a.states, b.states);
            raw.letters = Math.min(a.letters, b.letters);
            raw.states = 0;
            meet(p << SHIFT | q, 0);
            for (int i = 0; i < raw.states && i < MOST_PAIRS; i++) {
                int left = codes[i] >> SHIFT;
                int right = codes[i] & LOW;
                raw.ends[i] = accepts(how, a.ends[left], b.ends[right]);
                for (int l = 0; l < raw.letters; l++) {
                    int code = a.next(left, l) << SHIFT | b.next(right, l);
                    raw.lead(i, l, meet(code, i * MOST_LETTERS + l));
                }
            }
        }

        private void forgetPairs(int lefts, int rights) {
            for (int p = 0; p < lefts; p++) {
                for (int q = 0; q < rights; q++) {
                    numbers[p << SHIFT | q] = NONE;
                }
            }
        }

        private int meet(int code, int origin) {
            if (numbers[code] == NONE && raw.states < MOST_PAIRS) {
                numbers[code] = raw.states;
                codes[raw.states] = code;
                origins[raw.states] = origin;
                raw.states++;
            }
            return numbers[code];
        }

        private static boolean accepts(int how, boolean a, boolean b) {
            switch (how) {
                case BOTH: return a && b;
                case EITHER: return a || b;
                case WITHOUT: return a && !b;
                default: return a != b;
            }
        }

        /** The sets of THEN, AGAIN or TURNED; false, if they are too many. */
        private boolean gather(int how, Machine a, Machine b) {
            raw.letters = a.letters;
            met.clear();
            meetFirst(how, a, b);
            long ends = how == TURNED ? 1L << a.first : (how == THEN ? b : a).endSet();
            for (int i = 0; i < met.count && i < MOST_SETS; i++) {
                raw.ends[i] = (met.sets[i] & ends) != 0 || how == AGAIN && i == 0;
                Arrays.fill(setsAhead, 0L);
                lookAhead(how, i, a, b);
                for (int l = 0; l < a.letters; l++) {
                    int leader = how == THEN ? a.next(met.leaders[i], l) : 0;
                    int number = met.numberOf(leader, setsAhead[l]);
                    if (number == NONE) {
                        return false;
                    }
                    raw.lead(i, l, number);
                }
            }
            raw.states = met.count;
            return true;
        }

        private void meetFirst(int how, Machine a, Machine b) {
            if (how == TURNED) {
                met.numberOf(0, a.endSet());
            } else if (how == THEN) {
                met.numberOf(a.first, a.ends[a.first] ? 1L << b.first : 0);
            } else {
                met.numberOf(0, 0);
            }
        }

        private void lookAhead(int how, int i, Machine a, Machine b) {
            if (how == TURNED) {
                lookBack(met.sets[i], a);
            } else if (how == THEN) {
                lookOn(met.sets[i], b);
                for (int l = 0; l < a.letters; l++) {
                    if (a.ends[a.next(met.leaders[i], l)]) {
                        setsAhead[l] |= 1L << b.first;
                    }
                }
            } else {
                lookOn(i == 0 ? 1L << a.first : met.sets[i], a);
                long ends = a.endSet();
                for (int l = 0; l < a.letters; l++) {
                    if ((setsAhead[l] & ends) != 0) {
                        setsAhead[l] |= 1L << a.first;
                    }
                }
            }
        }

        private void lookOn(long set, Machine m) {
            for (int s = 0; s < m.states; s++) {
                if ((set >>> s & 1) != 0) {
                    for (int l = 0; l < m.letters; l++) {
                        setsAhead[l] |= 1L << m.ways[s * m.letters + l];
                    }
                }
            }
        }

        private void lookBack(long set, Machine m) {
            for (int s = 0; s < m.states; s++) {
                for (int l = 0; l < m.letters; l++) {
                    if ((set >>> m.ways[s * m.letters + l] & 1) != 0) {
                        setsAhead[l] |= 1L << s;
                    }
                }
            }
        }
    }

    /** Reads the tape as an expression. Each rule leaves one machine more on the stack. */
    private static final class Reader {
        // What any, all and both have so far, for each that is open; and a part with a helper.
        private static final int MOST_STACKED = 3 * (MOST_OPEN + 1) + 3;

        private final Workshop workshop;
        private final Tape tape;
        private final Machine[] stack = new Machine[MOST_STACKED];
        private int top;
        private int letters;
        private int place;
        private int fault;
        private boolean full;

        Reader(Workshop workshop, Tape tape) {
            this.workshop = workshop;
            this.tape = tape;
            for (int i = 0; i < MOST_STACKED; i++) {
                stack[i] = new Machine(MOST_STATES);
            }
        }

        Machine result() {
            return stack[0];
        }

        /** The states of the result, a FAULT or ROOM. */
        int evaluate(int k) {
            letters = k;
            top = 0;
            place = 0;
            fault = NONE;
            full = false;
            readAny(0);
            if (fault == NONE && place < tape.length) {
                fault = place;
            }
            if (fault != NONE) {
                return FIRST_FAULT - fault;
            }
            return full ? ROOM : stack[0].states;
        }

        private void readAny(int open) {
            readAll(open);
            for (int left = tape.length; left > 0 && sees('|'); left--) {
                place++;
                readAll(open);
                fold(EITHER);
            }
        }

        private void readAll(int open) {
            readBoth(open);
            for (int left = tape.length; left > 0 && sees('&'); left--) {
                place++;
                readBoth(open);
                fold(BOTH);
            }
        }

        private void readBoth(int open) {
            if (!seesAtom()) {
                pushEmptyWord();
                return;
            }
            readPost(open);
            for (int left = tape.length; left > 0 && seesAtom(); left--) {
                readPost(open);
                fold(THEN);
            }
        }

        private void readPost(int open) {
            readAtom(open);
            for (int left = tape.length; left > 0; left--) {
                if (sees('*')) {
                    change(AGAIN);
                } else if (sees('+')) {
                    pushCopy();
                    change(AGAIN);
                    fold(THEN);
                } else if (sees('?')) {
                    pushEmptyWord();
                    fold(EITHER);
                } else {
                    return;
                }
                place++;
            }
        }

        /** open: how many ( and ! stand open here; never more than MOST_OPEN. */
        private void readAtom(int open) {
            boolean opens = sees('(') || sees('!');
            if (!seesAtom() || opens && open >= MOST_OPEN) {
                giveUp();
                push();
            } else if (sees('(')) {
                place++;
                readAny(open + 1);
                if (!sees(')')) {
                    giveUp();
                }
                place++;
            } else if (sees('!')) {
                place++;
                readAtom(open + 1);
                change(NOT);
            } else {
                pushLetters();
                place++;
            }
        }

        private boolean sees(char c) {
            return fault == NONE && place < tape.length && tape.octets[place] == c;
        }

        private boolean seesAtom() {
            return sees('(') || sees('!') || sees('.') || sees('0') || seesLetter();
        }

        private boolean seesLetter() {
            if (fault != NONE || place >= tape.length) {
                return false;
            }
            int letter = tape.letter(place);
            return letter >= 0 && letter < letters;
        }

        /** Only the first fault is told. */
        private void giveUp() {
            if (fault == NONE) {
                fault = place;
            }
        }

        private Machine push() {
            if (top < MOST_STACKED) {
                top++;
            }
            return stack[top - 1];
        }

        private void pushCopy() {
            if (top >= 1) {
                Machine m = stack[top - 1];
                push().copyOf(m);
            }
        }

        private void pushEmptyWord() {
            Machine m = push();
            m.reset(letters, 2);
            m.ends[0] = true;
            m.leadAll(0, 1);
        }

        /** What a letter, '.' or '0' takes. The first letter goes to state 1, so that the machine is in order. */
        private void pushLetters() {
            Machine m = push();
            if (sees('0')) {
                m.reset(letters, 1);
                return;
            }
            int taken = sees('.') || sees('a') ? 1 : 2;
            int lost = 3 - taken;
            m.reset(letters, 3);
            m.ends[taken] = true;
            m.leadAll(0, sees('.') ? taken : lost);
            m.leadAll(taken, lost);
            if (seesLetter()) {
                m.lead(0, tape.letter(place), taken);
            }
        }

        private void change(int how) {
            if (isSound() && top >= 1) {
                Machine m = stack[top - 1];
                full = workshop.combine(m, how, m, m) == ROOM;
            }
        }

        private void fold(int how) {
            if (top < 2) {
                return;
            }
            top--;
            if (isSound()) {
                full = workshop.combine(stack[top - 1], how, stack[top - 1], stack[top]) == ROOM;
            }
        }

        /** Behind a fault or ROOM no machine is made any more: only a first fault is still looked for. */
        private boolean isSound() {
            return fault == NONE && !full;
        }
    }

    /** How many words of a length are taken from a state on: at most 4 to the 30th, so sums stay far inside a long. */
    private static final class WordCount {
        private final long[] taken = new long[(LONGEST_WORD + 1) * MOST_STATES];

        long ofLength(Machine m, int length) {
            for (int n = 0; n <= length; n++) {
                countRow(m, n);
            }
            return from(m.first, length);
        }

        /** Puts the i-th word on the tape: its length, or NONE. */
        int spell(Machine m, long i, Tape tape) {
            long rest = i;
            for (int length = 0; length <= LONGEST_WORD; length++) {
                countRow(m, length);
                long here = from(m.first, length);
                if (rest < here) {
                    spellOfLength(m, length, rest, tape);
                    return length;
                }
                rest -= here;
            }
            return NONE;
        }

        /** How many words are before the one on the tape, which is a word of the machine and not too long. */
        long rank(Machine m, Tape tape) {
            long before = 0;
            for (int n = 0; n <= tape.length; n++) {
                countRow(m, n);
                if (n < tape.length) {
                    before += from(m.first, n);
                }
            }
            int state = m.first;
            for (int i = 0; i < tape.length; i++) {
                int letter = tape.letter(i);
                for (int l = 0; l < letter; l++) {
                    before += from(m.next(state, l), tape.length - i - 1);
                }
                state = m.next(state, letter);
            }
            return before;
        }

        private void spellOfLength(Machine m, int length, long i, Tape tape) {
            tape.length = length;
            long rest = i;
            int state = m.first;
            for (int place = 0; place < length; place++) {
                int letter = 0;
                long here = from(m.next(state, 0), length - place - 1);
                while (rest >= here && letter < m.letters - 1) {
                    rest -= here;
                    letter++;
                    here = from(m.next(state, letter), length - place - 1);
                }
                tape.setLetter(place, letter);
                state = m.next(state, letter);
            }
        }

        private long from(int state, int length) {
            return taken[length * MOST_STATES + state];
        }

        /** The rows of all shorter lengths have been counted before. */
        private void countRow(Machine m, int length) {
            for (int s = 0; s < m.states; s++) {
                taken[length * MOST_STATES + s] = length == 0 ? asNumber(m.ends[s]) : sumAhead(m, s, length);
            }
        }

        private long sumAhead(Machine m, int state, int length) {
            long sum = 0;
            for (int l = 0; l < m.letters; l++) {
                sum += from(m.next(state, l), length - 1);
            }
            return sum;
        }
    }

    /** The mappings that words make of the states of a smallest machine. */
    private static final class MappingTable {
        final Machine small = new Machine(MOST_STATES);
        private final int[] images = new int[MOST_MAPPINGS * MOST_STATES];
        private final int[] older = new int[MOST_MAPPINGS];
        private final int[] newest = new int[BUCKETS];
        private final int[] trial = new int[MOST_STATES];
        private final int[] twice = new int[MOST_STATES];
        int count;

        /** How many there are, or ROOM: then none are kept. */
        int findAll() {
            Arrays.fill(newest, NONE);
            count = 0;
            for (int s = 0; s < small.states; s++) {
                trial[s] = s;
            }
            keepTrial();
            for (int i = 0; i < count && i < MOST_MAPPINGS; i++) {
                for (int l = 0; l < small.letters; l++) {
                    for (int s = 0; s < small.states; s++) {
                        trial[s] = small.next(image(i, s), l);
                    }
                    if (!keepTrial()) {
                        count = 0;
                        return ROOM;
                    }
                }
            }
            return count;
        }

        int image(int i, int state) {
            return images[i * MOST_STATES + state];
        }

        /** Keeps the trial row, if it is new; false, if it is one too many. */
        private boolean keepTrial() {
            int bucket = bucketOfTrial();
            int i = newest[bucket];
            for (int left = count; left > 0 && i >= 0; left--) {
                if (isTrial(i)) {
                    return true;
                }
                i = older[i];
            }
            if (count >= MOST_MAPPINGS) {
                return false;
            }
            System.arraycopy(trial, 0, images, count * MOST_STATES, small.states);
            older[count] = newest[bucket];
            newest[bucket] = count;
            count++;
            return true;
        }

        private int bucketOfTrial() {
            int sum = 0;
            for (int s = 0; s < small.states; s++) {
                sum = sum * 31 + trial[s];
            }
            return (sum * 0x9E3779B9) >>> (32 - BUCKET_BITS);
        }

        private boolean isTrial(int i) {
            for (int s = 0; s < small.states; s++) {
                if (image(i, s) != trial[s]) {
                    return false;
                }
            }
            return true;
        }

        int countIdempotent() {
            int found = 0;
            for (int i = 0; i < count; i++) {
                int fixed = 0;
                for (int s = 0; s < small.states; s++) {
                    if (image(i, image(i, s)) == image(i, s)) {
                        fixed++;
                    }
                }
                if (fixed == small.states) {
                    found++;
                }
            }
            return found;
        }

        /** How many have just so many states that something is mapped to. */
        int countWithImages(int size) {
            int found = 0;
            for (int i = 0; i < count; i++) {
                long set = 0;
                for (int s = 0; s < small.states; s++) {
                    set |= 1L << image(i, s);
                }
                if (Long.bitCount(set) == size) {
                    found++;
                }
            }
            return found;
        }

        /** All mappings are made of those of the letters: if these do not care for their order, none do. */
        boolean allCommute() {
            for (int l = 0; l < small.letters; l++) {
                for (int r = l + 1; r < small.letters; r++) {
                    for (int s = 0; s < small.states; s++) {
                        if (small.next(small.next(s, l), r) != small.next(small.next(s, r), l)) {
                            return false;
                        }
                    }
                }
            }
            return true;
        }

        boolean allSettle() {
            for (int i = 0; i < count; i++) {
                if (!settles(i)) {
                    return false;
                }
            }
            return true;
        }

        /** After 64 times, more than there are states, every state is on a circle: the mapping must keep it there. */
        private boolean settles(int i) {
            for (int s = 0; s < small.states; s++) {
                trial[s] = image(i, s);
            }
            for (int doubling = 0; doubling < SHIFT; doubling++) {
                squareTrial();
            }
            for (int s = 0; s < small.states; s++) {
                if (image(i, trial[s]) != trial[s]) {
                    return false;
                }
            }
            return true;
        }

        private void squareTrial() {
            for (int s = 0; s < small.states; s++) {
                twice[s] = trial[trial[s]];
            }
            System.arraycopy(twice, 0, trial, 0, small.states);
        }
    }
}
