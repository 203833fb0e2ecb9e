import java.util.Arrays;

/**
 * A simulator of header compression over a link that delays, loses and copies packets.
 *
 * <p>All rows are made in the constructors and used again: a call makes no object but the
 * exception that it may throw.
 */
public final class HeaderSqueezer {
    public static final int NONE = -1;

    // A record row: the four fields of a header and, behind them, the strides.
    private static final int FIELDS = 4;
    private static final int ADDRESS = 0;
    private static final int SEQUENCE = 1;
    private static final int TIME = 2;
    private static final int FLAGS = 3;
    private static final int SEQUENCE_STRIDE = 4;
    private static final int TIME_STRIDE = 5;
    private static final int RECORD_VALUES = 6;

    private static final int ADDRESS_MOST = 255;
    private static final int CLOCK_MOST = 65535;
    private static final int FLAGS_MOST = 15;
    private static final int SEQUENCE_STRIDE_MOST = 255;
    private static final int TIME_STRIDE_MOST = 4095;

    // Policies, and the forms of packets too.
    private static final int FULL = 0;
    private static final int PATTERN = 2;
    private static final int CONFIDENCE_MOST = 15;

    private static final int PACKETS_MOST = 500;
    private static final int LINK_MOST = 20;
    private static final int DISTANCE_MOST = 15;
    private static final int FULL_SIZE = 12;
    private static final int RELATIVE_SIZE = 3;
    private static final int PLAIN_SIZE = 6;

    private static final int WINDOW = 64;
    private static final int DEPTH_MOST = 15;
    private static final int INTERVAL_MOST = 16;
    private static final int PATIENCE_MOST = 8;
    private static final int RECORD_NUMBER_MOST = 999;

    // What becomes of a packet that is received.
    private static final int RIGHT = 0;
    private static final int WRONG = 1;
    private static final int UNKNOWN = 2;
    private static final int REPETITION = 3;
    private static final int OUTCOMES = 4;

    private static final int SENT_VALUES = 8;
    private static final int COUNTS = 8;

    private static final int TEXT_MOST = 100;
    private static final int ORDERS_MOST = 50;
    private static final int BYTE_MOST = 127;
    private static final int DIGITS_MOST = 2;

    private static final int SAVED_MOST = 4;
    // One place more than states are kept: the state before a script waits there, not yet kept.
    private static final int SAVED_PLACES = 5;

    private final State now;
    private final State[] places;
    private int newest;
    private int savedStates;
    private final Script script;

    public HeaderSqueezer() {
        PacketLog log = new PacketLog();
        now = new State(log);
        places = new State[SAVED_PLACES];
        for (int i = 0; i < SAVED_PLACES; i++) {
            places[i] = new State(log);
        }
        script = new Script();
    }

    // ---- sender

    public int setField(int field, int value)
            throws IndexOutOfBoundsException, IllegalArgumentException {
        if (!inRange(field, 0, FIELDS - 1)) {
            throw new IndexOutOfBoundsException("no such field");
        }
        if (!inRange(value, 0, fieldMost(field))) {
            throw new IllegalArgumentException("value out of range");
        }
        saveState();
        int previous = now.sender.present[field];
        now.sender.present[field] = value;
        return previous;
    }

    public int setStrides(int sequence, int time) throws IllegalArgumentException {
        if (!inRange(sequence, 0, SEQUENCE_STRIDE_MOST) || !inRange(time, 0, TIME_STRIDE_MOST)) {
            throw new IllegalArgumentException("stride out of range");
        }
        saveState();
        int previous = now.sender.present[TIME_STRIDE];
        now.sender.present[SEQUENCE_STRIDE] = sequence;
        now.sender.present[TIME_STRIDE] = time;
        return previous;
    }

    public int setPolicy(int policy, int confidence) throws IllegalArgumentException {
        if (!inRange(policy, FULL, PATTERN) || !inRange(confidence, 0, CONFIDENCE_MOST)) {
            throw new IllegalArgumentException("policy or confidence out of range");
        }
        saveState();
        int previous = now.sender.policy;
        now.sender.policy = policy;
        now.sender.confidence = confidence;
        return previous;
    }

    public int advance() {
        saveState();
        now.sender.step();
        return now.sender.present[SEQUENCE];
    }

    public int send() throws IllegalStateException {
        if (!now.hasRoomFor(1)) {
            throw new IllegalStateException("no packet can be sent");
        }
        saveState();
        return now.sendNext();
    }

    public int stream(int times) throws IllegalArgumentException, IllegalStateException {
        if (!inRange(times, 1, LINK_MOST)) {
            throw new IllegalArgumentException("times out of range");
        }
        if (!now.hasRoomFor(times)) {
            throw new IllegalStateException("so many packets cannot be sent");
        }
        saveState();
        for (int i = 0; i < times; i++) {
            now.sender.step();
            now.sendNext();
        }
        return now.forward.length;
    }

    public int field(int field) throws IndexOutOfBoundsException {
        if (!inRange(field, 0, FIELDS - 1)) {
            throw new IndexOutOfBoundsException("no such field");
        }
        return now.sender.present[field];
    }

    public int sizeWith(int policy, int confidence) throws IllegalArgumentException {
        if (!inRange(policy, FULL, PATTERN) || !inRange(confidence, 0, CONFIDENCE_MOST)) {
            throw new IllegalArgumentException("policy or confidence out of range");
        }
        return now.sender.sizeFrom(now.sender.usedReference(policy, confidence), policy);
    }

    public int reference() {
        return now.sender.trustedReference(now.sender.confidence);
    }

    public int sent(int packet, int what)
            throws IndexOutOfBoundsException, IllegalArgumentException {
        if (!inRange(packet, 0, now.sender.sentPackets - 1)) {
            throw new IndexOutOfBoundsException("no such packet has been sent");
        }
        if (!inRange(what, 0, SENT_VALUES - 1)) {
            throw new IllegalArgumentException("what out of range");
        }
        return now.sender.sentValue(packet, what);
    }

    // ---- links

    public int deliver(int index) throws IndexOutOfBoundsException {
        if (!now.forward.has(index)) {
            throw new IndexOutOfBoundsException("no such packet in the link");
        }
        saveState();
        return now.deliverPacket(index);
    }

    public int deliverAll() {
        saveState();
        int packets = now.forward.length;
        int decoded = 0;
        for (int i = 0; i < packets; i++) {
            int outcome = now.deliverPacket(0);
            if (outcome == RIGHT || outcome == WRONG) {
                decoded++;
            }
        }
        return decoded;
    }

    public int lose(int index) throws IndexOutOfBoundsException {
        if (!now.forward.has(index)) {
            throw new IndexOutOfBoundsException("no such packet in the link");
        }
        saveState();
        return now.forward.takeOut(index);
    }

    public int copy(int index) throws IndexOutOfBoundsException, IllegalStateException {
        if (!now.forward.has(index)) {
            throw new IndexOutOfBoundsException("no such packet in the link");
        }
        if (now.forward.isFull()) {
            throw new IllegalStateException("the link is full");
        }
        saveState();
        now.forward.put(now.forward.items[index]);
        return now.forward.length;
    }

    public int deliverBack(int index) throws IndexOutOfBoundsException {
        if (!now.back.has(index)) {
            throw new IndexOutOfBoundsException("no such message in the link");
        }
        saveState();
        return now.deliverMessage(index);
    }

    public int loseBack(int index) throws IndexOutOfBoundsException {
        if (!now.back.has(index)) {
            throw new IndexOutOfBoundsException("no such message in the link");
        }
        saveState();
        return now.back.takeOut(index);
    }

    public int waiting(boolean back) {
        return linkOf(back).length;
    }

    public int waitingAt(boolean back, int index) throws IndexOutOfBoundsException {
        Link link = linkOf(back);
        if (!link.has(index)) {
            throw new IndexOutOfBoundsException("the link has no such index");
        }
        return link.items[index];
    }

    // ---- receiver

    public int setReceiver(int depth, int interval, int patience)
            throws IllegalArgumentException {
        if (!inRange(depth, 0, DEPTH_MOST) || !inRange(interval, 1, INTERVAL_MOST)
                || !inRange(patience, 1, PATIENCE_MOST)) {
            throw new IllegalArgumentException("depth, interval or patience out of range");
        }
        saveState();
        int previous = now.receiver.depth;
        now.receiver.depth = depth;
        now.receiver.interval = interval;
        now.receiver.patience = patience;
        return previous;
    }

    public int highest() {
        return now.receiver.highest;
    }

    public int record(int number, int what) throws IllegalArgumentException {
        if (!inRange(number, 0, RECORD_NUMBER_MOST) || !inRange(what, 0, RECORD_VALUES - 1)) {
            throw new IllegalArgumentException("number or what out of range");
        }
        return now.receiver.window.valueOf(number, what);
    }

    public int records() {
        return now.receiver.window.size();
    }

    public int numberFor(int told) throws IllegalArgumentException {
        if (!inRange(told, 0, WINDOW - 1)) {
            throw new IllegalArgumentException("told out of range");
        }
        return now.receiver.numberOf(told);
    }

    // ---- counts

    public int count(int what) throws IllegalArgumentException {
        if (!inRange(what, 0, COUNTS - 1)) {
            throw new IllegalArgumentException("what out of range");
        }
        return now.countOf(what);
    }

    public int saved() {
        return now.sender.savedBytes();
    }

    public int lateness() {
        return now.receiver.lateness;
    }

    public double meanSize() {
        int packets = now.sender.sentPackets;
        return packets == 0 ? 0.0 : (double) now.sender.sentBytes / (double) packets;
    }

    // ---- text

    public int append(int value) throws IllegalArgumentException, IllegalStateException {
        if (!inRange(value, 0, BYTE_MOST)) {
            throw new IllegalArgumentException("value out of range");
        }
        if (script.length >= TEXT_MOST) {
            throw new IllegalStateException("the text is full");
        }
        script.text[script.length] = value;
        script.length++;
        return script.length;
    }

    public int clearText() {
        int previous = script.length;
        script.length = 0;
        return previous;
    }

    public int carryOut() {
        int fault = script.readOrders();
        if (fault != NONE) {
            return -10 - fault;
        }
        State before = places[nextPlace()];
        before.copyFrom(now);
        for (int i = 0; i < script.orders; i++) {
            if (!now.obey(script.letters[i], script.numbers[i])) {
                now.copyFrom(before);
                return -1000 - i;
            }
        }
        keepNextPlace();
        return script.orders;
    }

    // ---- state

    public int undo() throws IllegalStateException {
        if (savedStates == 0) {
            throw new IllegalStateException("no state is saved");
        }
        now.copyFrom(places[newest]);
        newest = (newest + SAVED_PLACES - 1) % SAVED_PLACES;
        savedStates--;
        return savedStates;
    }

    public long digest() {
        long hash = mixed(3061L, script.length);
        hash = now.sender.digestOn(hash);
        hash = now.forward.digestOn(hash);
        hash = now.back.digestOn(hash);
        hash = now.receiver.digestOn(hash);
        for (int what = 0; what < COUNTS; what++) {
            hash = mixed(hash, now.countOf(what));
        }
        hash = mixed(hash, now.sender.savedBytes());
        hash = mixed(hash, now.receiver.lateness);
        return mixed(hash, savedStates);
    }

    private Link linkOf(boolean back) {
        return back ? now.back : now.forward;
    }

    private int nextPlace() {
        return (newest + 1) % SAVED_PLACES;
    }

    private void keepNextPlace() {
        newest = nextPlace();
        savedStates = Math.min(savedStates + 1, SAVED_MOST);
    }

    private void saveState() {
        places[nextPlace()].copyFrom(now);
        keepNextPlace();
    }

    private static boolean inRange(int value, int least, int most) {
        return value >= least && value <= most;
    }

    private static int fieldMost(int field) {
        switch (field) {
            case ADDRESS:
                return ADDRESS_MOST;
            case FLAGS:
                return FLAGS_MOST;
            default:
                return CLOCK_MOST;
        }
    }

    private static long mixed(long hash, long value) {
        return 31L * hash + value;
    }

    /** What headers and record rows have to do with one another. */
    private static final class Rows {
        static int wrapped(int value) {
            return value & CLOCK_MOST;
        }

        static int difference(int x, int y) {
            return (short) (x - y);
        }

        static void copyRow(int[] from, int[] to) {
            System.arraycopy(from, 0, to, 0, RECORD_VALUES);
        }

        /** Puts into a row the base that a record gives, with the strides of that record. */
        static void putBase(int[] base, int[] record, int form, int distance) {
            System.arraycopy(record, 0, base, 0, RECORD_VALUES);
            if (form == PATTERN) {
                base[SEQUENCE] = wrapped(base[SEQUENCE] + distance * record[SEQUENCE_STRIDE]);
                base[TIME] = wrapped(base[TIME] + distance * record[TIME_STRIDE]);
            }
        }

        static void putCarried(int[] carried, int[] header, int[] base) {
            carried[ADDRESS] = header[ADDRESS] == base[ADDRESS] ? NONE : header[ADDRESS];
            carried[SEQUENCE] = difference(header[SEQUENCE], base[SEQUENCE]);
            carried[TIME] = difference(header[TIME], base[TIME]);
            carried[FLAGS] = header[FLAGS] == base[FLAGS] ? NONE : header[FLAGS];
        }

        /** Turns a base into the header that a packet with this base carries. */
        static void addCarried(int[] base, int[] carried) {
            if (carried[ADDRESS] != NONE) {
                base[ADDRESS] = carried[ADDRESS];
            }
            base[SEQUENCE] = wrapped(base[SEQUENCE] + carried[SEQUENCE]);
            base[TIME] = wrapped(base[TIME] + carried[TIME]);
            if (carried[FLAGS] != NONE) {
                base[FLAGS] = carried[FLAGS];
            }
        }

        static boolean sameHeader(int[] a, int[] b) {
            for (int field = 0; field < FIELDS; field++) {
                if (a[field] != b[field]) {
                    return false;
                }
            }
            return true;
        }

        static int sizeOf(int[] carried) {
            int size = RELATIVE_SIZE + bytesOf(carried[SEQUENCE]) + bytesOf(carried[TIME]);
            if (carried[ADDRESS] != NONE) {
                size++;
            }
            if (carried[FLAGS] != NONE) {
                size++;
            }
            return size;
        }

        private static int bytesOf(int difference) {
            if (difference == 0) {
                return 0;
            }
            return inRange(difference, -128, 127) ? 1 : 2;
        }
    }

    /**
     * What never changes of the packets sent. All states share it: the packets of a saved state
     * are the first ones of the present state, so going back only forgets the last rows.
     */
    private static final class PacketLog {
        final int[][] records = new int[PACKETS_MOST][RECORD_VALUES];
        final int[][] carried = new int[PACKETS_MOST][FIELDS];
        final int[] forms = new int[PACKETS_MOST];
        final int[] references = new int[PACKETS_MOST];
        final int[] sizes = new int[PACKETS_MOST];
    }

    private static final class Sender {
        final PacketLog log;
        // The present header with the sender's strides: the row that a full packet carries.
        final int[] present = new int[RECORD_VALUES];
        int policy = FULL;
        int confidence = 0;
        boolean repairDue = false;
        int sentPackets = 0;
        int fullPackets = 0;
        int sentBytes = 0;
        final int[] acknowledged = new int[PACKETS_MOST];
        // Work rows, of no meaning between calls.
        final int[] base = new int[RECORD_VALUES];
        final int[] relation = new int[FIELDS];

        Sender(PacketLog log) {
            this.log = log;
            present[SEQUENCE_STRIDE] = 1;
            present[TIME_STRIDE] = 160;
        }

        void copyFrom(Sender other) {
            Rows.copyRow(other.present, present);
            policy = other.policy;
            confidence = other.confidence;
            repairDue = other.repairDue;
            sentPackets = other.sentPackets;
            fullPackets = other.fullPackets;
            sentBytes = other.sentBytes;
            System.arraycopy(other.acknowledged, 0, acknowledged, 0, sentPackets);
        }

        void step() {
            present[SEQUENCE] = Rows.wrapped(present[SEQUENCE] + present[SEQUENCE_STRIDE]);
            present[TIME] = Rows.wrapped(present[TIME] + present[TIME_STRIDE]);
        }

        int trustedReference(int confidence) {
            int lowest = Math.max(0, sentPackets - DISTANCE_MOST);
            for (int packet = sentPackets - 1; packet >= lowest; packet--) {
                boolean old = confidence > 0 && sentPackets - packet >= confidence;
                if (old || acknowledged[packet] == 1) {
                    return packet;
                }
            }
            return NONE;
        }

        /** The reference of the next packet; NONE if it is sent as a full one. */
        int usedReference(int policy, int confidence) {
            if (policy == FULL || repairDue) {
                return NONE;
            }
            return trustedReference(confidence);
        }

        /** The size of the next packet; what it carries stays in the work rows. */
        int sizeFrom(int reference, int form) {
            if (reference == NONE) {
                return FULL_SIZE;
            }
            Rows.putBase(base, log.records[reference], form, sentPackets - reference);
            Rows.putCarried(relation, present, base);
            return Rows.sizeOf(relation);
        }

        int sendPresent() {
            int packet = sentPackets;
            int reference = usedReference(policy, confidence);
            int size = sizeFrom(reference, policy);
            Rows.copyRow(present, log.records[packet]);
            if (reference == NONE) {
                fullPackets++;
            } else {
                log.records[packet][SEQUENCE_STRIDE] = base[SEQUENCE_STRIDE];
                log.records[packet][TIME_STRIDE] = base[TIME_STRIDE];
                System.arraycopy(relation, 0, log.carried[packet], 0, FIELDS);
            }
            log.forms[packet] = reference == NONE ? FULL : policy;
            log.references[packet] = reference;
            log.sizes[packet] = size;
            acknowledged[packet] = 0;
            sentPackets++;
            sentBytes += size;
            repairDue = false;
            return packet;
        }

        void hear(int message) {
            if (message == NONE) {
                repairDue = true;
            } else if (inRange(message, 0, sentPackets - 1)) {
                // A receiver that was misled may acknowledge a number that was never sent.
                acknowledged[message] = 1;
            }
        }

        int savedBytes() {
            return sentPackets * PLAIN_SIZE - sentBytes;
        }

        int sentValue(int packet, int what) {
            switch (what) {
                case 4:
                    return log.sizes[packet];
                case 5:
                    return log.forms[packet];
                case 6:
                    return log.references[packet];
                case 7:
                    return acknowledged[packet];
                default:
                    return log.records[packet][what];
            }
        }

        long digestOn(long start) {
            long hash = start;
            for (int value = 0; value < RECORD_VALUES; value++) {
                hash = mixed(hash, present[value]);
            }
            hash = mixed(hash, policy);
            hash = mixed(hash, confidence);
            hash = mixed(hash, repairDue ? 1 : 0);
            for (int packet = 0; packet < sentPackets; packet++) {
                for (int what = 0; what < SENT_VALUES; what++) {
                    hash = mixed(hash, sentValue(packet, what));
                }
            }
            return hash;
        }
    }

    /** Packet numbers, or the messages of the receiver: acknowledged numbers, NONE for a repair. */
    private static final class Link {
        final int[] items = new int[LINK_MOST];
        int length = 0;

        void copyFrom(Link other) {
            length = other.length;
            System.arraycopy(other.items, 0, items, 0, length);
        }

        boolean has(int index) {
            return inRange(index, 0, length - 1);
        }

        boolean isFull() {
            return length >= LINK_MOST;
        }

        /** Puts an item at the end; a full link loses it. */
        void put(int item) {
            if (!isFull()) {
                items[length] = item;
                length++;
            }
        }

        int takeOut(int index) {
            int item = items[index];
            System.arraycopy(items, index + 1, items, index, length - index - 1);
            length--;
            return item;
        }

        long digestOn(long start) {
            long hash = mixed(start, length);
            for (int index = 0; index < length; index++) {
                hash = mixed(hash, items[index]);
            }
            return hash;
        }
    }

    /** The records of the receiver: 64 numbers in a row never share a slot. */
    private static final class Window {
        final int[] numbers = new int[WINDOW];
        final int[][] rows = new int[WINDOW][RECORD_VALUES];

        Window() {
            Arrays.fill(numbers, NONE);
        }

        void copyFrom(Window other) {
            System.arraycopy(other.numbers, 0, numbers, 0, WINDOW);
            for (int slot = 0; slot < WINDOW; slot++) {
                Rows.copyRow(other.rows[slot], rows[slot]);
            }
        }

        /** Numbers below 0 have no records: what they would refer to lies lower still. */
        boolean has(int number) {
            return number >= 0 && numbers[number % WINDOW] == number;
        }

        int[] rowOf(int number) {
            return rows[Math.floorMod(number, WINDOW)];
        }

        void keep(int number, int[] row) {
            int slot = Math.floorMod(number, WINDOW);
            numbers[slot] = number;
            Rows.copyRow(row, rows[slot]);
        }

        void dropUpTo(int number) {
            for (int slot = 0; slot < WINDOW; slot++) {
                if (numbers[slot] <= number) {
                    numbers[slot] = NONE;
                }
            }
        }

        int size() {
            int size = 0;
            for (int slot = 0; slot < WINDOW; slot++) {
                if (numbers[slot] != NONE) {
                    size++;
                }
            }
            return size;
        }

        int valueOf(int number, int what) {
            return has(number) ? rowOf(number)[what] : NONE;
        }
    }

    private static final class Receiver {
        final PacketLog log;
        int depth = 3;
        int interval = 1;
        int patience = 2;
        int highest = NONE;
        int unknownInRow = 0;
        int requests = 0;
        int lateness = 0;
        final int[] outcomes = new int[OUTCOMES];
        final Window window = new Window();
        // A work row, of no meaning between calls.
        final int[] decoded = new int[RECORD_VALUES];

        Receiver(PacketLog log) {
            this.log = log;
        }

        void copyFrom(Receiver other) {
            depth = other.depth;
            interval = other.interval;
            patience = other.patience;
            highest = other.highest;
            unknownInRow = other.unknownInRow;
            requests = other.requests;
            lateness = other.lateness;
            System.arraycopy(other.outcomes, 0, outcomes, 0, OUTCOMES);
            window.copyFrom(other.window);
        }

        int numberOf(int told) {
            int lowest = highest - depth + 1;
            return lowest + Math.floorMod(told - lowest, WINDOW);
        }

        int decodedPackets() {
            return outcomes[RIGHT] + outcomes[WRONG];
        }

        int receive(int packet, Link back) {
            lateness = Math.max(lateness, highest - packet);
            int number = log.forms[packet] == FULL ? packet : numberOf(packet % WINDOW);
            int outcome = UNKNOWN;
            if (window.has(number)) {
                outcome = REPETITION;
            } else if (decode(packet, number)) {
                outcome = isRight(packet, number) ? RIGHT : WRONG;
            }
            outcomes[outcome]++;
            if (outcome == UNKNOWN) {
                missReference(back);
            } else if (outcome != REPETITION) {
                keepDecoded(number, back);
            }
            return outcome;
        }

        private boolean isRight(int packet, int number) {
            return number == packet && Rows.sameHeader(decoded, log.records[packet]);
        }

        /** Computes the record of a packet into the work row; false if its reference is unknown. */
        private boolean decode(int packet, int number) {
            int form = log.forms[packet];
            if (form == FULL) {
                Rows.copyRow(log.records[packet], decoded);
                return true;
            }
            int distance = packet - log.references[packet];
            if (!window.has(number - distance)) {
                return false;
            }
            Rows.putBase(decoded, window.rowOf(number - distance), form, distance);
            Rows.addCarried(decoded, log.carried[packet]);
            return true;
        }

        private void keepDecoded(int number, Link back) {
            if (number > highest) {
                highest = number;
                window.dropUpTo(highest - WINDOW);
            }
            if (number > highest - WINDOW) {
                window.keep(number, decoded);
            }
            unknownInRow = 0;
            if (decodedPackets() % interval == 0) {
                back.put(number);
            }
        }

        private void missReference(Link back) {
            unknownInRow++;
            if (unknownInRow >= patience) {
                unknownInRow = 0;
                requests++;
                back.put(NONE);
            }
        }

        long digestOn(long start) {
            long hash = mixed(start, depth);
            hash = mixed(hash, interval);
            hash = mixed(hash, patience);
            hash = mixed(hash, highest);
            hash = mixed(hash, unknownInRow);
            hash = mixed(hash, window.size());
            for (int number = Math.max(0, highest - WINDOW + 1); number <= highest; number++) {
                for (int what = 0; what < RECORD_VALUES; what++) {
                    hash = mixed(hash, window.valueOf(number, what));
                }
            }
            return hash;
        }
    }

    /** Everything that undo brings back. */
    private static final class State {
        final Sender sender;
        final Receiver receiver;
        final Link forward = new Link();
        final Link back = new Link();

        State(PacketLog log) {
            sender = new Sender(log);
            receiver = new Receiver(log);
        }

        void copyFrom(State other) {
            sender.copyFrom(other.sender);
            receiver.copyFrom(other.receiver);
            forward.copyFrom(other.forward);
            back.copyFrom(other.back);
        }

        boolean hasRoomFor(int packets) {
            return sender.sentPackets + packets <= PACKETS_MOST
                    && forward.length + packets <= LINK_MOST;
        }

        int sendNext() {
            int packet = sender.sendPresent();
            forward.put(packet);
            return packet;
        }

        int deliverPacket(int index) {
            return receiver.receive(forward.takeOut(index), back);
        }

        int deliverMessage(int index) {
            int message = back.takeOut(index);
            sender.hear(message);
            return message;
        }

        int countOf(int what) {
            switch (what) {
                case 0:
                    return sender.sentPackets;
                case 1:
                    return receiver.decodedPackets();
                case 2:
                    return receiver.outcomes[RIGHT];
                case 3:
                    return receiver.outcomes[WRONG];
                case 4:
                    return receiver.outcomes[UNKNOWN];
                case 5:
                    return receiver.outcomes[REPETITION];
                case 6:
                    return receiver.requests;
                default:
                    return sender.fullPackets;
            }
        }

        /** Carries out an order of a script; false, with nothing done, if it would throw. */
        boolean obey(int letter, int index) {
            if (!isPossible(letter, index)) {
                return false;
            }
            switch (letter) {
                case 'n':
                    sender.step();
                    break;
                case 's':
                    sendNext();
                    break;
                case 'd':
                    deliverPacket(index);
                    break;
                case 'l':
                    forward.takeOut(index);
                    break;
                case 'c':
                    forward.put(forward.items[index]);
                    break;
                case 'a':
                    deliverMessage(index);
                    break;
                default:
                    back.takeOut(index);
                    break;
            }
            return true;
        }

        private boolean isPossible(int letter, int index) {
            switch (letter) {
                case 'n':
                    return true;
                case 's':
                    return hasRoomFor(1);
                case 'a':
                case 'x':
                    return back.has(index);
                case 'c':
                    return forward.has(index) && !forward.isFull();
                default:
                    return forward.has(index);
            }
        }
    }

    /** The script text, and the orders that were last read from it. */
    private static final class Script {
        final int[] text = new int[TEXT_MOST];
        int length = 0;
        final int[] letters = new int[ORDERS_MOST];
        final int[] numbers = new int[ORDERS_MOST];
        int orders = 0;

        /** Reads the orders of the text; the syntax error position, or NONE if there is none. */
        int readOrders() {
            orders = 0;
            int letter = NONE;
            int number = 0;
            int digits = 0;
            for (int at = 0; at < length; at++) {
                int sign = text[at];
                if (letter == NONE) {
                    if (!isPlainLetter(sign) && !isNumberedLetter(sign)) {
                        return at;
                    }
                    letter = sign;
                    number = 0;
                    digits = 0;
                } else if (isNumberedLetter(letter) && digits < DIGITS_MOST && isDigit(sign)) {
                    number = 10 * number + sign - '0';
                    digits++;
                } else if (sign == ';' && (digits > 0 || isPlainLetter(letter))) {
                    addOrder(letter, number);
                    letter = NONE;
                } else {
                    return at;
                }
            }
            return letter == NONE ? NONE : length;
        }

        /** An order has two bytes at least, so that the rows hold all that a text can have. */
        private void addOrder(int letter, int number) {
            if (orders < ORDERS_MOST) {
                letters[orders] = letter;
                numbers[orders] = number;
                orders++;
            }
        }

        private static boolean isPlainLetter(int sign) {
            return sign == 'n' || sign == 's';
        }

        private static boolean isNumberedLetter(int sign) {
            return sign == 'd' || sign == 'l' || sign == 'c' || sign == 'a' || sign == 'x';
        }

        private static boolean isDigit(int sign) {
            return inRange(sign, '0', '9');
        }
    }
}
