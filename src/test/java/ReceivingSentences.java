import java.io.IOException;

/** The boundary cases of the document's paragraphs "Links", "Receiving" and "Lateness". */
public final class ReceivingSentences extends Sentences {

    // ---- links

    private static void sentAtTheEnd() {
        HeaderSqueezer x = new HeaderSqueezer();
        x.send();
        x.send();
        dueLink(x, false, 0, 1);
        x.copy(0);
        x.stream(2);
        dueLink(x, false, 0, 1, 0, 2, 3);
        x.deliver(0);
        x.send();
        dueLink(x, false, 1, 0, 2, 3, 4);
    }

    private static void twentyPacketsAtMost() {
        HeaderSqueezer x = new HeaderSqueezer();
        x.stream(19);
        due("send() of the twentieth", x.send(), 19);
        due("waiting(false)", x.waiting(false), 20);
        due("waitingAt(false, 19)", x.waitingAt(false, 19), 19);
        refused(x, STATE, "send() into a full link", x::send);
        refused(x, STATE, "stream(1) into a full link", () -> x.stream(1));
        refused(x, STATE, "copy(0) in a full link", () -> x.copy(0));
        due("carryOut() of s; with a full link", run(x, "s;"), -1000);
        due("carryOut() of c0; with a full link", run(x, "c0;"), -1000);
        due("deliver(19)", x.deliver(19), 0);
        due("copy(0) of the twentieth", x.copy(0), 20);
        due("lose(7)", x.lose(7), 7);
        due("stream(1) of the twentieth", x.stream(1), 20);
        dueLink(x, false, 0, 1, 2, 3, 4, 5, 6, 8, 9, 10, 11, 12, 13, 14, 15, 16, 17, 18, 0, 20);
    }

    private static void messagesAtTheEnd() {
        HeaderSqueezer x = with(1, 1);
        x.setReceiver(3, 1, 1);
        x.stream(3);
        x.deliver(0);
        due("deliver(1), an unknown one", x.deliver(1), 2);
        dueLink(x, true, 0, NONE);
        x.setPolicy(0, 0);
        x.stream(2);
        x.deliver(2);
        x.deliver(1);
        dueLink(x, true, 0, NONE, 4, 3);
        x.loseBack(1);
        x.send();
        x.deliver(1);
        dueLink(x, true, 0, 4, 3, 5);
    }

    private static HeaderSqueezer withFullReturnLink() {
        HeaderSqueezer x = new HeaderSqueezer();
        streamAndDeliver(x, 20);
        return x;
    }

    private static void acknowledgmentFindsItFull() {
        HeaderSqueezer x = new HeaderSqueezer();
        streamAndDeliver(x, 19);
        due("waiting(true) of 19", x.waiting(true), 19);
        streamAndDeliver(x, 1);
        due("waiting(true) of 20", x.waiting(true), 20);
        due("waitingAt(true, 19)", x.waitingAt(true, 19), 19);
        x.stream(1);
        due("deliver(0) with a full return link", x.deliver(0), 0);
        due("waiting(true) of 21", x.waiting(true), 20);
        due("waitingAt(true, 0)", x.waitingAt(true, 0), 0);
        due("waitingAt(true, 19)", x.waitingAt(true, 19), 19);
        due("count(1)", x.count(1), 21);
        due("deliverBack(0)", x.deliverBack(0), 0);
        due("waiting(true): what was lost does not come", x.waiting(true), 19);
        streamAndDeliver(x, 1);
        due("waiting(true)", x.waiting(true), 20);
        due("waitingAt(true, 19)", x.waitingAt(true, 19), 21);
    }

    private static void requestFindsItFull() {
        HeaderSqueezer x = withFullReturnLink();
        x.setReceiver(3, 1, 1);
        x.setPolicy(1, 1);
        x.stream(4);
        x.lose(0);
        due("deliver(0) with a full return link", x.deliver(0), 2);
        due("waiting(true)", x.waiting(true), 20);
        due("waitingAt(true, 19)", x.waitingAt(true, 19), 19);
        due("requests", x.count(6), 1);
        due("loseBack(19)", x.loseBack(19), 19);
        due("deliver(0) with one place free", x.deliver(0), 2);
        due("waiting(true)", x.waiting(true), 20);
        due("waitingAt(true, 19)", x.waitingAt(true, 19), NONE);
        due("requests", x.count(6), 2);
    }

    /** The first, a middle one and the last of a link, and then the only one. */
    private static void anyPacketCanGo() {
        HeaderSqueezer x = new HeaderSqueezer();
        x.stream(7);
        due("lose(0)", x.lose(0), 0);
        due("lose(2)", x.lose(2), 3);
        due("lose(4)", x.lose(4), 6);
        dueLink(x, false, 1, 2, 4, 5);
        due("deliver(3)", x.deliver(3), 0);
        due("deliver(0)", x.deliver(0), 0);
        dueLink(x, false, 2, 4);
        due("lose(1)", x.lose(1), 4);
        due("deliver(0)", x.deliver(0), 0);
        dueLink(x, false);
        dueLink(x, true, 5, 1, 2);
        HeaderSqueezer y = new HeaderSqueezer();
        y.stream(20);
        due("lose(19)", y.lose(19), 19);
        due("deliver(18)", y.deliver(18), 0);
        due("lose(0)", y.lose(0), 0);
        due("deliver(0)", y.deliver(0), 0);
        dueLink(y, false, 2, 3, 4, 5, 6, 7, 8, 9, 10, 11, 12, 13, 14, 15, 16, 17);
    }

    private static void anyMessageCanGo() {
        HeaderSqueezer x = withFullReturnLink();
        due("deliverBack(19)", x.deliverBack(19), 19);
        due("loseBack(18)", x.loseBack(18), 18);
        due("deliverBack(0)", x.deliverBack(0), 0);
        due("loseBack(0)", x.loseBack(0), 1);
        due("deliverBack(5)", x.deliverBack(5), 7);
        due("loseBack(5)", x.loseBack(5), 8);
        dueLink(x, true, 2, 3, 4, 5, 6, 9, 10, 11, 12, 13, 14, 15, 16, 17);
        for (int packet : new int[] {0, 7, 19}) {
            due("sent(" + packet + ", 7)", x.sent(packet, 7), 1);
        }
        for (int packet : new int[] {1, 8, 18, 2}) {
            due("sent(" + packet + ", 7)", x.sent(packet, 7), 0);
        }
    }

    private static void copyAtTheEnd() {
        HeaderSqueezer x = new HeaderSqueezer();
        x.stream(1);
        due("copy(0) of the only one", x.copy(0), 2);
        x.stream(2);
        due("copy(3) of the last one", x.copy(3), 5);
        due("copy(4) of a copy", x.copy(4), 6);
        due("copy(0) of the first one", x.copy(0), 7);
        dueLink(x, false, 0, 0, 1, 2, 2, 2, 0);
        due("count(0)", x.count(0), 3);
        due("deliver(6)", x.deliver(6), 0);
        due("deliver(0)", x.deliver(0), 3);
    }

    // ---- what the receiver is set to and keeps

    private static void depths() {
        HeaderSqueezer x = new HeaderSqueezer();
        due("numberFor(61) by the first depth", x.numberFor(61), -3);
        due("numberFor(60) by the first depth", x.numberFor(60), 60);
        due("setReceiver(15, 1, 1)", x.setReceiver(15, 1, 1), 3);
        due("setReceiver(0, 1, 1)", x.setReceiver(0, 1, 1), 15);
        due("setReceiver(3, 1, 1)", x.setReceiver(3, 1, 1), 0);
        refused(x, ARGUMENT, "setReceiver(16, 1, 1)", () -> x.setReceiver(16, 1, 1));
        refused(x, ARGUMENT, "setReceiver(-1, 1, 1)", () -> x.setReceiver(-1, 1, 1));
    }

    private static void intervals() {
        HeaderSqueezer x = new HeaderSqueezer();
        x.stream(20);
        x.deliver(0);
        dueLink(x, true, 0);
        x.setReceiver(3, 16, 1);
        for (int decoded = 1; decoded < 15; decoded++) {
            x.deliver(0);
        }
        due("waiting(true) of 15 by the interval 16", x.waiting(true), 1);
        x.deliver(0);
        dueLink(x, true, 0, 15);
        refused(x, ARGUMENT, "setReceiver(3, 17, 1)", () -> x.setReceiver(3, 17, 1));
        refused(x, ARGUMENT, "setReceiver(3, 0, 1)", () -> x.setReceiver(3, 0, 1));
        x.setReceiver(3, 1, 1);
        x.deliver(0);
        dueLink(x, true, 0, 15, 16);
    }

    /** So many packets wait that are unknown, as the packet that they build on was lost. */
    private static HeaderSqueezer withUnknown(int packets) {
        HeaderSqueezer x = with(1, 1);
        x.send();
        x.stream(packets);
        x.lose(0);
        return x;
    }

    private static void patiences() {
        HeaderSqueezer x = withUnknown(16);
        due("deliver(0)", x.deliver(0), 2);
        due("requests after 1 by the first patience", x.count(6), 0);
        x.deliver(0);
        due("requests after 2 by the first patience", x.count(6), 1);
        x.setReceiver(3, 1, 8);
        for (int unknown = 1; unknown < 8; unknown++) {
            x.deliver(0);
        }
        due("requests after 7 by the patience 8", x.count(6), 1);
        x.deliver(0);
        due("requests after 8 by the patience 8", x.count(6), 2);
        x.setReceiver(3, 1, 1);
        x.deliver(0);
        due("requests after 1 by the patience 1", x.count(6), 3);
        refused(x, ARGUMENT, "setReceiver(3, 1, 9)", () -> x.setReceiver(3, 1, 9));
        refused(x, ARGUMENT, "setReceiver(3, 1, 0)", () -> x.setReceiver(3, 1, 0));
    }

    private static void highestAtFirst() {
        HeaderSqueezer x = withUnknown(2);
        due("highest() at first", x.highest(), -1);
        x.deliverAll();
        due("highest() after unknown ones", x.highest(), -1);
        x.setPolicy(0, 0);
        x.send();
        x.deliver(0);
        due("highest() after the first decoded one", x.highest(), 3);
        HeaderSqueezer y = new HeaderSqueezer();
        y.send();
        y.deliver(0);
        due("highest() after packet 0", y.highest(), 0);
    }

    private static void recordsAboveHLess64() {
        HeaderSqueezer x = new HeaderSqueezer();
        streamAndDeliver(x, 64);
        due("records() at H = 63", x.records(), 64);
        due("record(0, 1) at H = 63", x.record(0, 1), 1);
        streamAndDeliver(x, 1);
        due("records() at H = 64", x.records(), 64);
        due("record(0, 1) at H = 64", x.record(0, 1), NONE);
        due("record(1, 1) at H = 64", x.record(1, 1), 2);
        due("record(64, 1) at H = 64", x.record(64, 1), 65);
        due("record(65, 1) at H = 64", x.record(65, 1), NONE);
    }

    // ---- which number a packet has

    /** Full packets far above and far below what last bits can tell. */
    private static void fullNumbersBeyondTheReach() {
        HeaderSqueezer x = new HeaderSqueezer();
        x.stream(2);
        sendAndLose(x, 2, 90);
        x.setField(0, 8);
        x.send();
        due("deliver(2) of packet 90", x.deliver(2), 0);
        due("highest()", x.highest(), 90);
        dueLink(x, true, 90);
        due("deliver(0) of packet 0", x.deliver(0), 0);
        due("deliver(0) of packet 1", x.deliver(0), 0);
        dueLink(x, true, 90, 0, 1);
        due("highest()", x.highest(), 90);
        due("record(90, 0)", x.record(90, 0), 8);
    }

    private static void dueNumbers(HeaderSqueezer x, int depth) {
        x.setReceiver(depth, 16, 1);
        int least = x.highest() - depth + 1;
        for (int number = least; number < least + 64; number++) {
            int told = (number + 64) % 64;
            due("numberFor(" + told + ") by depth " + depth, x.numberFor(told), number);
        }
    }

    private static void numbersInReach() {
        for (int depth : new int[] {0, 1, 3, 15}) {
            dueNumbers(new HeaderSqueezer(), depth);
            HeaderSqueezer x = new HeaderSqueezer();
            streamAndDeliver(x, 3 + depth);
            dueNumbers(x, depth);
            streamAndDeliver(x, 97);
            dueNumbers(x, depth);
        }
    }

    /** Deltas to packet 0, which is acknowledged, wait, but for the last one, which is delivered. */
    private static HeaderSqueezer withDeltasTo(int highest, int depth) {
        HeaderSqueezer x = withFirstAcknowledged(1);
        x.setReceiver(depth, 16, 8);
        for (int packet = 1; packet <= highest; packet++) {
            x.send();
        }
        due("deliver() of the highest", x.deliver(highest - 1), 0);
        return x;
    }

    /** The last number in reach is right; the one below it is taken for one 64 above. */
    private static void deliveriesAtTheReach() {
        for (int depth : new int[] {1, 3, 15}) {
            int highest = depth == 15 ? 15 : 10;
            HeaderSqueezer x = withDeltasTo(highest, depth);
            due("numberFor() of H", x.numberFor(highest), highest);
            int least = highest - depth + 1;
            if (depth > 1) {
                due("deliver() of H - D + 1 by depth " + depth, x.deliver(least - 1), 0);
            }
            if (least > 1) {
                due("deliver() of H - D by depth " + depth, x.deliver(least - 2), 2);
            }
            due("right ones by depth " + depth, x.count(2), depth > 1 ? 3 : 2);
        }
        HeaderSqueezer y = withDeltasTo(15, 15);
        y.send();
        due("form of packet 16", y.sent(16, 5), 0);
        due("deliver(14) of packet 16", y.deliver(14), 0);
        due("deliver(0) of packet 1 = H - D", y.deliver(0), 2);
        due("deliver(0) of packet 2 = H - D + 1", y.deliver(0), 0);
    }

    /** A copy of the packet with the number H is out of reach by depth 0 alone. */
    private static void copiesOfTheHighest() {
        for (int depth = 0; depth < 2; depth++) {
            HeaderSqueezer x = withFirstAcknowledged(1);
            x.setReceiver(depth, 16, 8);
            x.send();
            x.copy(0);
            due("deliver(0)", x.deliver(0), 0);
            due("deliver(0) of its copy by depth " + depth, x.deliver(0), depth == 0 ? 2 : 3);
        }
    }

    // ---- repetitions and unknown packets

    private static void dueRepetition(HeaderSqueezer x, int index) {
        int back = x.waiting(true);
        int decoded = x.count(1);
        int unknown = x.count(4);
        int requests = x.count(6);
        int repetitions = x.count(5);
        int highest = x.highest();
        int records = x.records();
        due("deliver(" + index + ")", x.deliver(index), 3);
        due("waiting(true)", x.waiting(true), back);
        due("count(1)", x.count(1), decoded);
        due("count(4)", x.count(4), unknown);
        due("count(6)", x.count(6), requests);
        due("count(5)", x.count(5), repetitions + 1);
        due("highest()", x.highest(), highest);
        due("records()", x.records(), records);
    }

    private static void repetitionsDoNothing() {
        HeaderSqueezer x = with(1, 1);
        x.send();
        x.copy(0);
        x.send();
        x.copy(2);
        x.deliver(0);
        x.deliver(1);
        dueLink(x, false, 0, 1);
        dueLink(x, true, 0, 1);
        dueRepetition(x, 0);
        dueRepetition(x, 0);
        repetitionLeavesTheRow();
        repetitionLeavesTheRecord();
    }

    private static void repetitionLeavesTheRow() {
        HeaderSqueezer x = with(1, 1);
        x.send();
        x.copy(0);
        x.deliver(0);
        x.stream(3);
        x.lose(1);
        x.deliver(1);
        dueRepetition(x, 0);
        due("the second unknown one in a row", x.deliver(0), 2);
        due("requests", x.count(6), 1);
    }

    /** A wrong record 65 stays, although the true packet 65 comes with another header. */
    private static void repetitionLeavesTheRecord() {
        HeaderSqueezer x = withPacketHeldBack(1);
        due("deliver(0) of packet 1, taken for 65", x.deliver(0), 1);
        setHeader(x, 9, 9, 9, 9);
        x.send();
        due("sent(65, 5)", x.sent(65, 5), 0);
        dueRepetition(x, 0);
        dueRecord(x, 65, 0, 0, 0, 0, 1, 160);
    }

    /** Only above H - 64 a packet that was decoded can be a repetition. */
    private static void repetitionAtTheEndOfTheRecords() {
        HeaderSqueezer x = new HeaderSqueezer();
        x.send();
        x.send();
        x.copy(0);
        x.copy(1);
        x.deliver(0);
        x.deliver(0);
        sendAndLose(x, 2, 64);
        x.send();
        due("deliver(2) of packet 64", x.deliver(2), 0);
        dueRepetition(x, 1);
        due("deliver(0) of packet 0 at H = 64", x.deliver(0), 0);
    }

    private static void unknownWithoutRecord() {
        HeaderSqueezer x = with(1, 1);
        x.stream(3);
        due("deliver(1), nothing is known", x.deliver(1), 2);
        due("deliver(1), nothing is known", x.deliver(1), 2);
        due("deliver(0), a full one", x.deliver(0), 0);
        x.stream(2);
        due("deliver(1), two behind the last known one", x.deliver(1), 2);
        due("deliver(0), its reference is unknown", x.deliver(0), 2);
        x.setPolicy(1, 5);
        x.stream(1);
        due("reference of packet 5", x.sent(5, 6), 0);
        due("deliver(0) with a distance to a known one", x.deliver(0), 0);
        due("records()", x.records(), 2);
        due("unknown ones", x.count(4), 4);
        HeaderSqueezer y = with(1, 1);
        y.stream(3);
        y.deliver(0);
        due("deliver(1) with a record one below the reference", y.deliver(1), 2);
    }

    /** Packets taken for numbers below 0, and such as refer to numbers below 0. */
    private static void unknownBelowZero() {
        HeaderSqueezer x = with(0, 0);
        sendAndLose(x, 0, 61);
        x.setPolicy(2, 15);
        for (int told = 61; told < 64; told++) {
            x.send();
            due("numberFor(" + told + ")", x.numberFor(told), told - 64);
            due("deliver(0) of packet " + told, x.deliver(0), 2);
        }
        x.send();
        due("numberFor(0)", x.numberFor(0), 0);
        due("deliver(0) of packet 64", x.deliver(0), 2);
        due("highest()", x.highest(), -1);
        due("records()", x.records(), 0);
        due("requests", x.count(6), 2);
    }

    // ---- what is decoded

    private static void decodedIfNotUnknown() {
        HeaderSqueezer x = new HeaderSqueezer();
        x.stream(20);
        x.lose(0);
        due("deliverAll() of full ones, the first was lost", x.deliverAll(), 19);
        HeaderSqueezer y = with(1, 1);
        y.send();
        y.deliver(0);
        y.stream(2);
        due("deliver(0), its reference is the only record", y.deliver(0), 0);
        due("deliver(0), its reference came just now", y.deliver(0), 0);
        dueCounts(y, 3, 3, 3, 0, 0, 0, 0, 1);
    }

    private static void carriedOrOfTheBase() {
        HeaderSqueezer x = with(1, 1);
        setHeader(x, 200, 10, 20, 3);
        x.send();
        x.setField(0, 0);
        x.send();
        x.setField(3, 0);
        x.send();
        setHeader(x, 255, 10, 20, 15);
        x.send();
        due("deliverAll()", x.deliverAll(), 4);
        dueRecord(x, 1, 0, 10, 20, 3);
        dueRecord(x, 2, 0, 10, 20, 0);
        dueRecord(x, 3, 255, 10, 20, 15);
        due("right ones", x.count(2), 4);
    }

    /** The record 64 of the receiver gives the base, not the packet 0 that the sender had. */
    private static void baseOfTheReceiver() {
        for (int policy = 1; policy < 3; policy++) {
            HeaderSqueezer x = with(policy, 1);
            x.send();
            x.setField(1, 5);
            x.setField(2, 500);
            x.send();
            x.lose(0);
            sendAndLose(x, 1, 64);
            setHeader(x, 7, 65533, 65500, 8);
            x.setStrides(3, 50);
            x.send();
            x.deliver(1);
            due("deliver(0) of packet 1", x.deliver(0), 1);
            int sequence = policy == 1 ? 65533 + 5 : 65533 + 3 + 4;
            int time = policy == 1 ? 65500 + 500 : 65500 + 50 + 340;
            dueRecord(x, 65, 7, sequence - 65536, time - 65536, 8, 3, 50);
        }
    }

    private static void stridesOfThatRecord() {
        HeaderSqueezer x = with(2, 1);
        x.setStrides(255, 4095);
        x.send();
        x.setStrides(0, 0);
        x.stream(3);
        x.deliverAll();
        for (int number = 0; number < 4; number++) {
            due("record(" + number + ", 4)", x.record(number, 4), 255);
            due("record(" + number + ", 5)", x.record(number, 5), 4095);
        }
    }

    private static void stridesOfFullPackets() {
        HeaderSqueezer x = new HeaderSqueezer();
        x.setStrides(0, 4095);
        x.send();
        x.setStrides(255, 0);
        x.send();
        x.setStrides(1, 1);
        x.deliverAll();
        dueRecord(x, 0, 0, 0, 0, 0, 0, 4095);
        dueRecord(x, 1, 0, 0, 0, 0, 255, 0);
    }

    private static void highestGrowsAlone() {
        HeaderSqueezer x = new HeaderSqueezer();
        x.stream(4);
        x.deliver(2);
        due("highest()", x.highest(), 2);
        x.deliver(1);
        due("highest() after one below it", x.highest(), 2);
        x.deliver(1);
        due("highest() after one above it", x.highest(), 3);
        x.deliver(0);
        due("highest() after packet 0", x.highest(), 3);
        due("records()", x.records(), 4);
    }

    private static void recordsAreDropped() {
        HeaderSqueezer x = new HeaderSqueezer();
        x.setReceiver(3, 16, 2);
        streamAndDeliver(x, 10);
        sendAndLose(x, 0, 72);
        x.send();
        x.send();
        due("deliver(0) of packet 72", x.deliver(0), 0);
        due("record(8, 1) at H = 72", x.record(8, 1), NONE);
        due("record(9, 1) at H = 72", x.record(9, 1), 10);
        due("records() at H = 72", x.records(), 2);
        due("deliver(0) of packet 73", x.deliver(0), 0);
        due("record(9, 1) at H = 73", x.record(9, 1), NONE);
        due("records() at H = 73", x.records(), 2);
    }

    private static void newOneTooLow() {
        HeaderSqueezer x = new HeaderSqueezer();
        x.setField(0, 1);
        x.send();
        x.copy(0);
        x.setField(0, 2);
        x.send();
        sendAndLose(x, 3, 64);
        x.setField(0, 3);
        x.send();
        x.deliver(3);
        due("deliver(0) of packet 0 = H - 64", x.deliver(0), 0);
        due("record(0, 0)", x.record(0, 0), NONE);
        due("record(64, 0) in spite of it", x.record(64, 0), 3);
        due("records()", x.records(), 1);
        due("deliver(0) of packet 0 again, no record is kept", x.deliver(0), 0);
        due("deliver(0) of packet 1 = H - 63", x.deliver(0), 0);
        due("record(1, 0)", x.record(1, 0), 2);
        due("records()", x.records(), 2);
        due("highest()", x.highest(), 64);
        dueLink(x, true, 64, 0, 0, 1);
        dueCounts(x, 65, 4, 4, 0, 0, 0, 0, 65);
    }

    /** The records between 0 and H - 64 are as low as 0 is. */
    private static void newOneTooLowAboveZero() {
        HeaderSqueezer x = new HeaderSqueezer();
        sendAndLose(x, 0, 36);
        x.stream(3);
        sendAndLose(x, 3, 100);
        x.send();
        x.deliver(3);
        due("highest()", x.highest(), 100);
        for (int packet = 36; packet < 39; packet++) {
            due("deliver(0) of packet " + packet, x.deliver(0), 0);
        }
        due("record(36, 1) at H = 100", x.record(36, 1), NONE);
        due("record(37, 1) at H = 100", x.record(37, 1), 2);
        due("record(38, 1) at H = 100", x.record(38, 1), 3);
        due("records()", x.records(), 3);
        dueLink(x, true, 100, 36, 37, 38);
    }

    // ---- messages of the receiver

    private static void everyIntervalth() {
        HeaderSqueezer x = new HeaderSqueezer();
        x.setReceiver(3, 3, 2);
        x.stream(8);
        x.copy(0);
        x.deliver(0);
        x.deliver(0);
        due("waiting(true) after 2", x.waiting(true), 0);
        due("a repetition", x.deliver(6), 3);
        due("waiting(true) after a repetition", x.waiting(true), 0);
        x.deliver(3);
        dueLink(x, true, 5);
        x.deliver(0);
        due("waiting(true) after 4", x.waiting(true), 1);
        x.setReceiver(3, 5, 2);
        x.deliver(0);
        dueLink(x, true, 5, 3);
        x.setReceiver(3, 16, 2);
        x.setPolicy(1, 1);
        x.stream(2);
        due("an unknown one, the sixth received", x.deliver(3), 2);
        x.setReceiver(3, 6, 2);
        due("an unknown one does not count", x.waiting(true), 2);
        x.deliver(0);
        dueLink(x, true, 5, 3, 4);
    }

    /** A wrong packet counts as well, and is acknowledged with the number that it was taken for. */
    private static void wrongOnesAreAcknowledged() {
        HeaderSqueezer x = withPacketHeldBack(1);
        dueLink(x, true, 64);
        x.setReceiver(3, 2, 2);
        due("deliver(0) of packet 1", x.deliver(0), 1);
        dueLink(x, true, 64, 65);
    }

    private static void decodedEndsTheRow() {
        HeaderSqueezer x = with(1, 1);
        x.setReceiver(3, 16, 3);
        x.send();
        x.stream(6);
        x.lose(1);
        x.deliver(1);
        x.deliver(1);
        due("a decoded one", x.deliver(0), 0);
        x.deliver(0);
        x.deliver(0);
        due("requests after two and two", x.count(6), 0);
        x.deliver(0);
        due("requests after two and three", x.count(6), 1);
    }

    private static void wrongOneEndsTheRow() {
        HeaderSqueezer x = withPacketHeldBack(1);
        x.setPolicy(1, 1);
        x.stream(3);
        x.lose(1);
        due("an unknown one", x.deliver(1), 2);
        due("a wrong one", x.deliver(0), 1);
        due("an unknown one", x.deliver(0), 2);
        due("requests", x.count(6), 0);
    }

    private static void requestAtThePatience() {
        HeaderSqueezer x = withUnknown(18);
        x.setReceiver(3, 1, 3);
        x.deliver(0);
        x.deliver(0);
        due("waiting(true) after 2 of 3", x.waiting(true), 0);
        x.deliver(0);
        dueLink(x, true, NONE);
        x.deliver(0);
        x.deliver(0);
        due("waiting(true) after 2 of 3 again", x.waiting(true), 1);
        x.deliver(0);
        dueLink(x, true, NONE, NONE);
        for (int unknown = 0; unknown < 5; unknown++) {
            x.setReceiver(3, 1, 8);
            x.deliver(0);
        }
        x.setReceiver(3, 1, 2);
        due("waiting(true) before the next one", x.waiting(true), 2);
        x.deliver(0);
        due("waiting(true) after 6, more than the patience 2", x.waiting(true), 3);
        x.deliver(0);
        due("waiting(true) after the first of a new row", x.waiting(true), 3);
        x.setReceiver(3, 1, 3);
        x.deliver(0);
        due("waiting(true) after 2 of a greater patience", x.waiting(true), 3);
        x.deliver(0);
        due("waiting(true) after 3 of it", x.waiting(true), 4);
        due("count(6)", x.count(6), 4);
    }

    // ---- right or wrong

    private static void wrongByNumberAlone() {
        HeaderSqueezer x = withPacketHeldBack(1);
        due("deliver(0) of packet 1, the header is right", x.deliver(0), 1);
        dueRecord(x, 65, 0, 0, 0, 0);
        dueCounts(x, 65, 2, 1, 1, 0, 0);
    }

    /** Packet 66 builds on the record 65, which is packet 1's; only this field of it is another. */
    private static void wrongByHeaderAlone(int field, int want) {
        HeaderSqueezer x = withPacketHeldBack(1);
        x.deliver(0);
        if (field >= 0) {
            x.setField(field, 1);
        }
        x.setStrides(9, 9);
        x.send();
        x.deliver(0);
        x.setPolicy(1, 1);
        x.send();
        due("sent(66, 4)", x.sent(66, 4), 3);
        due("deliver(0) of packet 66, field " + field + " differs", x.deliver(0), want);
        due("record(66, 4)", x.record(66, 4), 1);
        due("wrong ones", x.count(3), 1 + want);
    }

    private static void acknowledgmentOfOneNotSent() {
        HeaderSqueezer x = withPacketHeldBack(1);
        x.deliver(0);
        dueLink(x, true, 64, 65);
        due("deliverBack(1) with 65 sent", x.deliverBack(1), 65);
        x.setPolicy(1, 0);
        due("reference()", x.reference(), NONE);
        x.send();
        due("sent(65, 7)", x.sent(65, 7), 0);
        due("reference() with 66 sent", x.reference(), NONE);
        HeaderSqueezer y = withPacketHeldBack(1);
        y.deliver(0);
        y.send();
        due("deliverBack(1) with 66 sent", y.deliverBack(1), 65);
        due("sent(65, 7) of the last one sent", y.sent(65, 7), 1);
        due("sent(64, 7)", y.sent(64, 7), 0);
        due("deliverBack(0)", y.deliverBack(0), 64);
        due("sent(64, 7)", y.sent(64, 7), 1);
    }

    /** Packet 436 is taken for 500, one more than the last packet that can ever be sent. */
    private static void acknowledgmentOfOneNeverToBeSent() {
        HeaderSqueezer x = new HeaderSqueezer();
        streamAndDeliver(x, 436);
        x.setPolicy(1, 1);
        x.send();
        x.setPolicy(0, 0);
        write(x, "d1;".repeat(19));
        for (int sent = 437; sent < 494; sent += 19) {
            x.stream(19);
            due("carryOut()", x.carryOut(), 19);
        }
        x.stream(6);
        for (int packet = 494; packet < 500; packet++) {
            due("deliver(1) of packet " + packet, x.deliver(1), 0);
        }
        x.loseBack(19);
        due("deliver(0) of packet 436", x.deliver(0), 1);
        due("highest()", x.highest(), 500);
        due("deliverBack(19)", x.deliverBack(19), 500);
        due("sent(499, 7)", x.sent(499, 7), 0);
        due("reference()", x.reference(), NONE);
    }

    private static void requestMakesARepairDue() {
        HeaderSqueezer x = withRepairRequested();
        due("sizeWith(1, 1) before it comes", x.sizeWith(1, 1), 3);
        due("deliverBack(0)", x.deliverBack(0), NONE);
        due("sizeWith(1, 1) after it came", x.sizeWith(1, 1), 12);
        HeaderSqueezer y = withRepairRequested();
        due("loseBack(0)", y.loseBack(0), NONE);
        due("sizeWith(1, 1) after it was lost", y.sizeWith(1, 1), 3);
    }

    // ---- lateness

    private static void latenessByTheNumberSent() {
        HeaderSqueezer x = withPacketHeldBack(1);
        due("deliver(0) of packet 1 at H = 64, taken for 65", x.deliver(0), 1);
        due("lateness()", x.lateness(), 63);
        HeaderSqueezer y = new HeaderSqueezer();
        y.stream(9);
        y.deliver(8);
        due("lateness() of the first at H = -1", y.lateness(), 0);
        y.deliver(7);
        due("lateness() of packet 7 at H = 8", y.lateness(), 1);
    }

    private static void latenessOfAll() {
        HeaderSqueezer x = with(1, 1);
        x.stream(3);
        x.copy(0);
        x.setPolicy(0, 0);
        x.stream(7);
        x.deliver(10);
        due("an unknown one, packet 1", x.deliver(1), 2);
        due("lateness() of an unknown one", x.lateness(), 8);
        due("a decoded one, packet 0", x.deliver(0), 0);
        due("lateness() of a decoded one", x.lateness(), 9);
        x.stream(1);
        x.deliver(x.waiting(false) - 1);
        due("a repetition of packet 0", x.deliver(1), 3);
        due("lateness() of a repetition", x.lateness(), 10);
    }

    private static void latenessAboveZero() {
        HeaderSqueezer x = new HeaderSqueezer();
        x.stream(3);
        x.copy(1);
        x.deliver(0);
        x.deliver(0);
        due("lateness() in order", x.lateness(), 0);
        due("deliver(1) of a copy of packet 1 at H = 1", x.deliver(1), 3);
        due("lateness() of the number H", x.lateness(), 0);
        x.copy(0);
        x.stream(1);
        due("deliver(2) of packet 3 at H = 1", x.deliver(2), 0);
        due("lateness() of a number above H", x.lateness(), 0);
        x.deliver(0);
        due("lateness() of packet 2 at H = 3", x.lateness(), 1);
    }

    private static void links() {
        sentence("The packets that are sent are put at the end of the forward link",
                ReceivingSentences::sentAtTheEnd);
        sentence("which holds at most 20 packets", ReceivingSentences::twentyPacketsAtMost);
        sentence("the messages of the receiver are put at the end of the return link",
                ReceivingSentences::messagesAtTheEnd);
        sentence("which holds at most 20 messages (a message that finds it full is lost at once)", () -> {
            acknowledgmentFindsItFull();
            requestFindsItFull();
        });
        sentence("From both links any packet or message can be delivered or lost", () -> {
            anyPacketCanGo();
            anyMessageCanGo();
        });
        sentence("a packet of the forward link can be copied (the copy is put at its end)",
                ReceivingSentences::copyAtTheEnd);
    }

    private static void receiver() {
        sentence("There are a depth D, 0 to 15, initially 3", ReceivingSentences::depths);
        sentence("an interval of acknowledgments, 1 to 16, initially 1", ReceivingSentences::intervals);
        sentence("and a patience, 1 to 8, initially 2", ReceivingSentences::patiences);
        sentence("the highest number H that it has decoded, -1 at first",
                ReceivingSentences::highestAtFirst);
        sentence("It keeps the records with numbers above H - 64.",
                ReceivingSentences::recordsAboveHLess64);
    }

    private static void numbers() {
        sentence("The number x of a full packet is told.", ReceivingSentences::fullNumbersBeyondTheReach);
        sentence("For other packets it is the number from H - D + 1 to H - D + 64 that is equal to the "
                + "told one modulo 64.", () -> {
            numbersInReach();
            deliveriesAtTheReach();
            copiesOfTheHighest();
        });
        sentence("If the receiver has a record of the number x, the packet is a repetition; nothing "
                + "else happens.", () -> {
            repetitionsDoNothing();
            repetitionAtTheEndOfTheRecords();
        });
        sentence("Otherwise a packet that is not full is unknown if the receiver has no record of the "
                + "number (x - distance).", () -> {
            unknownWithoutRecord();
            unknownBelowZero();
        });
    }

    private static void decoding() {
        sentence("If it is not unknown, it is decoded", ReceivingSentences::decodedIfNotUnknown);
        sentence("its header is computed from what it carries, with the base that the record of the "
                + "receiver with the number (x - distance) gives",
                ReceivingSentences::baseOfTheReceiver);
        sentence("(an address or flags that the packet does not carry are those of this base)",
                ReceivingSentences::carriedOrOfTheBase);
        sentence("its strides are those of that record, and the record is kept",
                ReceivingSentences::stridesOfThatRecord);
        sentence("those of a full packet are what it carries", ReceivingSentences::stridesOfFullPackets);
        sentence("H becomes x if x is greater", ReceivingSentences::highestGrowsAlone);
        sentence("records with numbers up to H - 64 are dropped then",
                ReceivingSentences::recordsAreDropped);
        sentence("the new one too, if x is so low", () -> {
            newOneTooLow();
            newOneTooLowAboveZero();
        });
        sentence("A decoded packet is right if x is its number and the header is that with which it was "
                + "sent; otherwise it is wrong.", () -> {
            wrongByNumberAlone();
            for (int field = 0; field < 4; field++) {
                wrongByHeaderAlone(field, 1);
            }
            wrongByHeaderAlone(NONE, 0);
        });
    }

    private static void messages() {
        sentence("If the number of decoded packets is divisible by the interval then, an "
                + "acknowledgment of the number x is put into the return link.", () -> {
            everyIntervalth();
            wrongOnesAreAcknowledged();
        });
        sentence("The number of packets in a row that were unknown becomes 0.", () -> {
            decodedEndsTheRow();
            wrongOneEndsTheRow();
        });
        sentence("If it is unknown, this number increases by 1; if it is at least the patience then, it "
                + "becomes 0, and a request for repair is put into the return link.",
                ReceivingSentences::requestAtThePatience);
        sentence("the packet x, if it has been sent, has been acknowledged", () -> {
            acknowledgmentOfOneNotSent();
            acknowledgmentOfOneNeverToBeSent();
        });
        sentence("when it gets a request for repair, a repair is due.",
                ReceivingSentences::requestMakesARepairDue);
    }

    private static void lateness() {
        sentence("H - (its number, as it was sent), at that moment, before anything happens", () -> {
            latenessByTheNumberSent();
            latenessOfAll();
        });
        sentence("if this is above 0, otherwise 0.", ReceivingSentences::latenessAboveZero);
    }

    public static void main(String[] args) throws IOException {
        readDocument();
        links();
        receiver();
        numbers();
        decoding();
        messages();
        lateness();
        finishSentences();
    }
}
