/**
 * What the tests share: calls beside the answers that are due, and ways to bring an object into a
 * state. Every object of a test stays under the 512 calls that the document allows.
 */
abstract class Checks {
    static final int NONE = -1;
    static final int[] WRONG_INTS = {Integer.MIN_VALUE, -2, -1, Integer.MAX_VALUE};
    static final Class<?> BOUNDS = IndexOutOfBoundsException.class;
    static final Class<?> ARGUMENT = IllegalArgumentException.class;
    static final Class<?> STATE = IllegalStateException.class;

    private static String subject = "";
    private static int checks = 0;
    private static int wrong = 0;

    interface Call {
        long answer();
    }

    /** Names what the checks from now on are about. */
    static void about(String what) {
        subject = what;
    }

    static int checksMade() {
        return checks;
    }

    static void fault(String what) {
        wrong++;
        System.out.println(subject + ": " + what);
    }

    static void due(String call, long got, long want) {
        checks++;
        if (got != want) {
            fault(call + " answered " + got + ", due is " + want);
        }
    }

    static void dueMean(String call, double got, double want) {
        checks++;
        if (got != want) {
            fault(call + " answered " + got + ", due is " + want);
        }
    }

    /** The call throws just this exception and changes nothing, the saved states included. */
    static void refused(HeaderSqueezer x, Class<?> want, String name, Call call) {
        checks++;
        long before = x.digest();
        String got = "nothing";
        try {
            call.answer();
        } catch (RuntimeException e) {
            got = e.getClass().getName();
        }
        if (!got.equals(want.getName())) {
            fault(name + " threw " + got + ", due is " + want.getName());
        }
        due("digest() after " + name, x.digest(), before);
    }

    /** The call throws nothing, whatever it answers. */
    static void accepted(String name, Call call) {
        checks++;
        try {
            call.answer();
        } catch (RuntimeException e) {
            fault(name + " threw " + e);
        }
    }

    /** The call answers so, and undo brings back all that was before it. */
    static void undoable(HeaderSqueezer x, int savedBefore, String name, long want, Call call) {
        // The digest ends with the number of saved states: without it, it tells the state alone.
        long before = x.digest() - savedBefore;
        due(name, call.answer(), want);
        int remaining = Math.min(savedBefore, 3);
        due("undo() after " + name, x.undo(), remaining);
        due("digest() after " + name + " and undo()", x.digest() - remaining, before);
    }

    /** The call answers so and is not undoable: it saves no state. */
    static void onlyAnswers(HeaderSqueezer x, String name, long want, Call call) {
        long before = x.digest();
        due(name, call.answer(), want);
        due("digest() after " + name, x.digest(), before);
    }

    static void dueHeader(HeaderSqueezer x, int packet, int... want) {
        for (int what = 0; what < want.length; what++) {
            due("sent(" + packet + ", " + what + ")", x.sent(packet, what), want[what]);
        }
    }

    static void dueRecord(HeaderSqueezer x, int number, int... want) {
        for (int what = 0; what < want.length; what++) {
            due("record(" + number + ", " + what + ")", x.record(number, what), want[what]);
        }
    }

    static void dueCounts(HeaderSqueezer x, int... want) {
        for (int what = 0; what < want.length; what++) {
            due("count(" + what + ")", x.count(what), want[what]);
        }
    }

    static void dueLink(HeaderSqueezer x, boolean back, int... want) {
        due("waiting(" + back + ")", x.waiting(back), want.length);
        for (int index = 0; index < Math.min(want.length, x.waiting(back)); index++) {
            due("waitingAt(" + back + ", " + index + ")", x.waitingAt(back, index), want[index]);
        }
    }

    static HeaderSqueezer with(int policy, int confidence) {
        HeaderSqueezer x = new HeaderSqueezer();
        x.setPolicy(policy, confidence);
        return x;
    }

    static void setHeader(HeaderSqueezer x, int address, int sequence, int time, int flags) {
        x.setField(0, address);
        x.setField(1, sequence);
        x.setField(2, time);
        x.setField(3, flags);
    }

    static void write(HeaderSqueezer x, String text) {
        x.clearText();
        for (char c : text.toCharArray()) {
            x.append(c);
        }
    }

    static int run(HeaderSqueezer x, String text) {
        write(x, text);
        return x.carryOut();
    }

    /** Sends full packets until so many are sent, and loses them all. */
    static void sendAndLose(HeaderSqueezer x, int keptInLink, int until) {
        x.setPolicy(0, 0);
        while (x.count(0) < until) {
            x.send();
            x.lose(keptInLink);
        }
    }

    /** Streams so many packets and delivers them all in order: with a new object, H is one less. */
    static void streamAndDeliver(HeaderSqueezer x, int packets) {
        for (int left = packets; left > 0; left -= 20) {
            x.stream(Math.min(left, 20));
            x.deliverAll();
        }
    }

    /** The first packet, a full one, is delivered and acknowledged; both links are empty. */
    static HeaderSqueezer withFirstAcknowledged(int policy) {
        HeaderSqueezer x = with(policy, 0);
        x.send();
        x.deliver(0);
        x.deliverBack(0);
        return x;
    }

    /**
     * Packet 1, sent with this policy relative to packet 0, waits alone in the forward link; H is
     * 64, the number of the only record, so that its last bits are taken for those of 65.
     */
    static HeaderSqueezer withPacketHeldBack(int policy) {
        HeaderSqueezer x = with(policy, 1);
        x.send();
        x.send();
        x.lose(0);
        sendAndLose(x, 1, 64);
        x.send();
        x.deliver(1);
        return x;
    }

    /** The last message of the return link is a request for repair that has come at once. */
    static HeaderSqueezer withRepairRequested() {
        HeaderSqueezer x = with(1, 1);
        x.setReceiver(3, 1, 1);
        x.send();
        x.send();
        x.lose(0);
        x.deliver(0);
        return x;
    }

    static long hash(long start, long... values) {
        long h = start;
        for (long value : values) {
            h = 31 * h + value;
        }
        return h;
    }

    /** The digest, put together again from the other answers and what is known besides them. */
    static long digestBy(HeaderSqueezer x, int[] textStridesPolicyConfidenceRepair, int[] receiver,
            int unknown, int states) {
        int[] known = textStridesPolicyConfidenceRepair;
        long h = hash(3061, known[0]);
        h = hash(h, x.field(0), x.field(1), x.field(2), x.field(3));
        h = hash(h, known[1], known[2], known[3], known[4], known[5]);
        for (int packet = 0; packet < x.count(0); packet++) {
            for (int what = 0; what < 8; what++) {
                h = hash(h, x.sent(packet, what));
            }
        }
        for (int link = 0; link < 2; link++) {
            h = hash(h, x.waiting(link == 1));
            for (int index = 0; index < x.waiting(link == 1); index++) {
                h = hash(h, x.waitingAt(link == 1, index));
            }
        }
        h = hash(h, receiver[0], receiver[1], receiver[2], x.highest(), unknown, x.records());
        for (int number = Math.max(0, x.highest() - 63); number <= x.highest(); number++) {
            for (int what = 0; what < 6; what++) {
                h = hash(h, x.record(number, what));
            }
        }
        for (int what = 0; what < 8; what++) {
            h = hash(h, x.count(what));
        }
        return hash(h, x.saved(), x.lateness(), states);
    }

    /** Tells how many checks there were, and ends the machine with 1 if an answer was wrong. */
    static void finish() {
        System.out.println(checks + " checks, " + wrong + " wrong");
        if (wrong != 0) {
            System.exit(1);
        }
    }
}
