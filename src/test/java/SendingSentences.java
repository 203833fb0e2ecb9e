import java.io.IOException;

/** The boundary cases of the document's paragraphs "Headers", "Records" and "Sending". */
public final class SendingSentences extends Sentences {

    // ---- an object, and headers

    private static void answersAll512Calls() {
        HeaderSqueezer x = new HeaderSqueezer();
        for (int call = 1; call <= 512; call++) {
            due("call " + call + ", advance()", x.advance(), call);
        }
        HeaderSqueezer y = with(1, 1);
        for (int packet = 0; packet < 255; packet++) {
            y.send();
            y.deliver(0);
        }
        due("call 512, count(2)", y.count(2), 255);
    }

    private static void fieldsThatThereAre() {
        HeaderSqueezer x = new HeaderSqueezer();
        for (int field = 0; field < 4; field++) {
            int f = field;
            due("setField(" + f + ", 9)", x.setField(f, 9), 0);
            due("field(" + f + ")", x.field(f), 9);
        }
        refused(x, BOUNDS, "field(-1)", () -> x.field(-1));
        refused(x, BOUNDS, "field(4)", () -> x.field(4));
    }

    private static void fieldRange(int field, int most) {
        HeaderSqueezer x = new HeaderSqueezer();
        due("setField to the most", x.setField(field, most), 0);
        due("field()", x.field(field), most);
        due("setField to the least", x.setField(field, 0), most);
        due("field()", x.field(field), 0);
        refused(x, ARGUMENT, "setField to the most + 1", () -> x.setField(field, most + 1));
        refused(x, ARGUMENT, "setField to -1", () -> x.setField(field, -1));
    }

    private static void moduloByAdvancing() {
        HeaderSqueezer x = new HeaderSqueezer();
        setHeader(x, 0, 65534, 65375, 0);
        due("advance() to the most", x.advance(), 65535);
        due("field(2) at the most", x.field(2), 65535);
        x.setStrides(1, 1);
        due("advance() over the end", x.advance(), 0);
        due("field(2) over the end", x.field(2), 0);
        setHeader(x, 0, 65535, 65535, 0);
        x.setStrides(255, 4095);
        due("advance() by the greatest stride", x.advance(), 254);
        due("field(2) by the greatest stride", x.field(2), 4094);
        due("stream(1)", x.stream(1), 1);
        dueHeader(x, 0, 0, 509, 8189);
    }

    private static void moduloOfPatterns() {
        HeaderSqueezer x = with(2, 1);
        x.setField(1, 65535);
        x.setField(2, 65376);
        x.send();
        x.stream(2);
        dueHeader(x, 1, 0, 0, 0, 0, 3, 2, 0);
        dueHeader(x, 2, 0, 1, 160, 0, 3, 2, 1);
        due("deliverAll()", x.deliverAll(), 3);
        due("right ones", x.count(2), 3);
        dueRecord(x, 1, 0, 0, 0, 0, 1, 160);
    }

    /** A delta from one value of a sequence or a time to another: its size, and what comes out. */
    private static void dueDifference(int field, int from, int to, int bytes) {
        HeaderSqueezer x = with(1, 1);
        x.setField(field, from);
        x.send();
        x.setField(field, to);
        due("sizeWith(1, 1) from " + from + " to " + to, x.sizeWith(1, 1), 3 + bytes);
        x.send();
        due("sent(1, 4) from " + from + " to " + to, x.sent(1, 4), 3 + bytes);
        due("deliverAll() from " + from + " to " + to, x.deliverAll(), 2);
        due("right ones from " + from + " to " + to, x.count(2), 2);
        due("record() from " + from + " to " + to, x.record(1, field), to);
    }

    private static void dueDifferences(int field) {
        dueDifference(field, 0, 32767, 2);
        dueDifference(field, 0, 32768, 2);
        dueDifference(field, 0, 32769, 2);
        dueDifference(field, 0, 65535, 1);
        dueDifference(field, 65535, 0, 1);
        dueDifference(field, 65500, 91, 1);
        dueDifference(field, 65500, 92, 2);
        dueDifference(field, 100, 65508, 1);
        dueDifference(field, 100, 65507, 2);
        dueDifference(field, 40000, 7232, 2);
    }

    private static void initialHeader() {
        HeaderSqueezer x = new HeaderSqueezer();
        for (int field = 0; field < 4; field++) {
            due("field(" + field + ")", x.field(field), 0);
        }
        x.send();
        dueHeader(x, 0, 0, 0, 0, 0);
    }

    private static void sequenceStrides() {
        HeaderSqueezer x = new HeaderSqueezer();
        due("advance() by the first stride", x.advance(), 1);
        x.setStrides(255, 0);
        due("advance() by the greatest stride", x.advance(), 256);
        x.setStrides(0, 0);
        due("advance() by the least stride", x.advance(), 256);
        refused(x, ARGUMENT, "setStrides(256, 0)", () -> x.setStrides(256, 0));
        refused(x, ARGUMENT, "setStrides(-1, 0)", () -> x.setStrides(-1, 0));
    }

    private static void timeStrides() {
        HeaderSqueezer x = new HeaderSqueezer();
        x.advance();
        due("field(2) by the first stride", x.field(2), 160);
        due("setStrides(0, 4095)", x.setStrides(0, 4095), 160);
        x.advance();
        due("field(2) by the greatest stride", x.field(2), 4255);
        due("setStrides(0, 0)", x.setStrides(0, 0), 4095);
        x.advance();
        due("field(2) by the least stride", x.field(2), 4255);
        refused(x, ARGUMENT, "setStrides(0, 4096)", () -> x.setStrides(0, 4096));
        refused(x, ARGUMENT, "setStrides(0, -1)", () -> x.setStrides(0, -1));
    }

    private static void advancingLeavesTheRest() {
        HeaderSqueezer x = new HeaderSqueezer();
        setHeader(x, 255, 7, 9, 15);
        x.setStrides(3, 20);
        due("advance()", x.advance(), 10);
        due("field(0)", x.field(0), 255);
        due("field(2)", x.field(2), 29);
        due("field(3)", x.field(3), 15);
    }

    // ---- records

    private static void numbersInOrder() {
        HeaderSqueezer x = new HeaderSqueezer();
        due("send() of the first", x.send(), 0);
        due("send() of the second", x.send(), 1);
        x.copy(0);
        due("send() after a copy", x.send(), 2);
        x.lose(3);
        due("send() after a loss", x.send(), 3);
        x.undo();
        due("send() after an undo of send()", x.send(), 3);
    }

    private static void fiveHundredAtMost() {
        HeaderSqueezer x = new HeaderSqueezer();
        streamAndDeliver(x, 498);
        refused(x, STATE, "stream(3) with 498 sent", () -> x.stream(3));
        due("stream(1) with 498 sent", x.stream(1), 1);
        due("send() with 499 sent", x.send(), 499);
        due("count(0)", x.count(0), 500);
        refused(x, STATE, "send() with 500 sent", x::send);
        refused(x, STATE, "stream(1) with 500 sent", () -> x.stream(1));
        onlyAnswers(x, "sent(499, 4)", 12, () -> x.sent(499, 4));
        refused(x, BOUNDS, "sent(500, 4)", () -> x.sent(500, 4));
        onlyAnswers(x, "sizeWith(1, 1) with 500 sent", 3, () -> x.sizeWith(1, 1));
        due("copy(1) with 500 sent", x.copy(1), 3);
        due("carryOut() of s; with 500 sent", run(x, "s;"), -1000);
    }

    private static void acknowledgedOrNot() {
        HeaderSqueezer x = new HeaderSqueezer();
        x.stream(2);
        due("sent(0, 7) of one just sent", x.sent(0, 7), 0);
        x.deliver(0);
        due("sent(0, 7) of one delivered", x.sent(0, 7), 0);
        x.deliverBack(0);
        due("sent(0, 7) of one acknowledged", x.sent(0, 7), 1);
        due("sent(1, 7) of another one", x.sent(1, 7), 0);
    }

    private static void recordsOfDecodedAlone() {
        HeaderSqueezer x = with(2, 1);
        x.setField(0, 6);
        x.setStrides(2, 5);
        x.stream(3);
        x.lose(1);
        dueRecord(x, 0, NONE, NONE, NONE, NONE, NONE, NONE);
        due("deliverAll(), one of them unknown", x.deliverAll(), 1);
        due("records()", x.records(), 1);
        dueRecord(x, 0, 6, 2, 5, 0, 2, 5);
        dueRecord(x, 1, NONE);
        dueRecord(x, 2, NONE);
    }

    // ---- policy, confidence, reference and form

    private static void policyIsFullAtFirst() {
        HeaderSqueezer x = new HeaderSqueezer();
        x.send();
        x.deliver(0);
        x.deliverBack(0);
        x.send();
        dueHeader(x, 1, 0, 0, 0, 0, 12, 0, NONE);
        due("setPolicy(2, 0)", x.setPolicy(2, 0), 0);
        due("setPolicy(1, 0)", x.setPolicy(1, 0), 2);
        due("setPolicy(0, 0)", x.setPolicy(0, 0), 1);
        refused(x, ARGUMENT, "setPolicy(3, 0)", () -> x.setPolicy(3, 0));
        refused(x, ARGUMENT, "setPolicy(-1, 0)", () -> x.setPolicy(-1, 0));
    }

    private static void confidenceIsNoneAtFirst() {
        HeaderSqueezer x = new HeaderSqueezer();
        x.stream(15);
        due("reference() by the first confidence", x.reference(), NONE);
        x.setPolicy(0, 15);
        due("reference() by the greatest confidence", x.reference(), 0);
        x.setPolicy(0, 0);
        due("reference() by the least confidence", x.reference(), NONE);
        refused(x, ARGUMENT, "setPolicy(0, 16)", () -> x.setPolicy(0, 16));
        refused(x, ARGUMENT, "setPolicy(0, -1)", () -> x.setPolicy(0, -1));
        refused(x, ARGUMENT, "sizeWith(0, 16)", () -> x.sizeWith(0, 16));
        refused(x, ARGUMENT, "sizeWith(0, -1)", () -> x.sizeWith(0, -1));
    }

    private static void trustByAcknowledgment() {
        HeaderSqueezer x = with(1, 0);
        x.send();
        x.send();
        due("reference() of nothing acknowledged", x.reference(), NONE);
        x.deliver(1);
        due("reference() of one delivered", x.reference(), NONE);
        x.deliverBack(0);
        due("reference() of one acknowledged", x.reference(), 1);
        x.setPolicy(1, 15);
        due("reference() by acknowledgment under the greatest confidence", x.reference(), 1);
    }

    private static void trustByAge() {
        for (int c : new int[] {1, 2, 14, 15}) {
            HeaderSqueezer x = with(0, c);
            for (int sent = 0; sent < c; sent++) {
                due("reference() with " + sent + " sent by confidence " + c, x.reference(), NONE);
                x.send();
            }
            due("reference() with " + c + " sent by confidence " + c, x.reference(), 0);
            x.send();
            due("reference() with one more sent by confidence " + c, x.reference(), 1);
        }
        HeaderSqueezer y = with(0, 0);
        y.stream(20);
        due("reference() by confidence 0", y.reference(), NONE);
    }

    private static void highestOfTheTrusted() {
        HeaderSqueezer x = with(0, 5);
        x.stream(15);
        x.deliver(9);
        x.deliver(2);
        x.deliverBack(1);
        due("reference() by age above an acknowledged one", x.reference(), 10);
        x.setPolicy(0, 14);
        due("reference() by acknowledgment above the old ones", x.reference(), 2);
        x.deliverBack(0);
        due("reference() of two acknowledged ones", x.reference(), 9);
        x.setPolicy(0, 0);
        due("reference() of two acknowledged ones by confidence 0", x.reference(), 9);
        x.setPolicy(0, 1);
        due("reference() by confidence 1", x.reference(), 14);
    }

    private static void distanceAtMost15() {
        HeaderSqueezer x = withFirstAcknowledged(1);
        x.stream(14);
        due("reference() at the distance 15", x.reference(), 0);
        due("sizeWith(1, 0) at the distance 15", x.sizeWith(1, 0), 3 + 1 + 2);
        x.send();
        dueHeader(x, 15, 0, 14, 2240, 0, 6, 1, 0);
        due("reference() at the distance 16", x.reference(), NONE);
        due("sizeWith(1, 0) at the distance 16", x.sizeWith(1, 0), 12);
        due("sizeWith(1, 15) at the distance 16", x.sizeWith(1, 15), 3 + 1 + 2);
        x.send();
        dueHeader(x, 16, 0, 14, 2240, 0, 12, 0, NONE);
    }

    private static void fullByPolicy() {
        HeaderSqueezer x = withFirstAcknowledged(0);
        due("reference()", x.reference(), 0);
        due("sizeWith(0, 0)", x.sizeWith(0, 0), 12);
        x.send();
        dueHeader(x, 1, 0, 0, 0, 0, 12, 0, NONE);
    }

    private static void fullWithoutReference() {
        for (int policy = 1; policy < 3; policy++) {
            HeaderSqueezer x = with(policy, 2);
            x.send();
            x.send();
            dueHeader(x, 0, 0, 0, 0, 0, 12, 0, NONE);
            dueHeader(x, 1, 0, 0, 0, 0, 12, 0, NONE);
            x.setStrides(0, 0);
            x.send();
            due("form of the first with a reference", x.sent(2, 5), policy);
            due("its reference", x.sent(2, 6), 0);
        }
    }

    private static void fullByRepairOnce() {
        for (int policy = 0; policy < 3; policy++) {
            HeaderSqueezer x = withRepairRequested();
            due("sizeWith(1, 1) with a request under way", x.sizeWith(1, 1), 3);
            due("deliverBack(0)", x.deliverBack(0), NONE);
            x.advance();
            due("sizeWith(1, 1) with a repair due", x.sizeWith(1, 1), 12);
            due("sizeWith(2, 1) with a repair due", x.sizeWith(2, 1), 12);
            x.setPolicy(policy, 1);
            x.send();
            dueHeader(x, 2, 0, 1, 160, 0, 12, 0, NONE);
            x.setPolicy(1, 1);
            due("sizeWith(1, 1) after the full packet", x.sizeWith(1, 1), 3);
            x.send();
            dueHeader(x, 3, 0, 1, 160, 0, 3, 1, 2);
        }
    }

    /** Two requests make one packet full, not two. */
    private static void repairIsDueOrNot() {
        HeaderSqueezer x = withRepairRequested();
        x.stream(1);
        x.deliver(0);
        dueLink(x, true, NONE, NONE);
        x.deliverBack(1);
        x.deliverBack(0);
        x.stream(2);
        dueLink(x, false, 3, 4);
        due("form of the first after two requests", x.sent(3, 5), 0);
        due("form of the second after two requests", x.sent(4, 5), 1);
    }

    private static void formByPolicy() {
        HeaderSqueezer x = with(1, 1);
        x.send();
        x.send();
        x.setPolicy(2, 1);
        x.send();
        x.setPolicy(1, 1);
        x.send();
        int[] forms = {0, 1, 2, 1};
        for (int packet = 0; packet < 4; packet++) {
            due("sent(" + packet + ", 5)", x.sent(packet, 5), forms[packet]);
            due("sent(" + packet + ", 6)", x.sent(packet, 6), packet - 1);
        }
    }

    // ---- what packets carry

    /** A full packet beyond the reach of last bits is told by its number nevertheless. */
    private static void fullNumberIsTold() {
        HeaderSqueezer x = new HeaderSqueezer();
        sendAndLose(x, 0, 100);
        x.setField(0, 3);
        x.send();
        due("deliver(0) of packet 100 as the first", x.deliver(0), 0);
        due("highest()", x.highest(), 100);
        due("record(100, 0)", x.record(100, 0), 3);
        due("record(36, 0)", x.record(36, 0), NONE);
    }

    private static void fullCarriesTheSendersStrides() {
        HeaderSqueezer x = with(2, 1);
        x.setStrides(255, 4095);
        x.stream(1);
        x.setStrides(1, 1);
        x.setField(1, 510);
        x.setField(2, 8190);
        due("sizeWith(2, 1) by the strides of packet 0", x.sizeWith(2, 1), 3);
        x.deliver(0);
        dueRecord(x, 0, 0, 255, 4095, 0, 255, 4095);
        x.setPolicy(0, 1);
        x.send();
        x.setPolicy(2, 1);
        x.stream(1);
        dueHeader(x, 2, 0, 511, 8191, 0, 3, 2, 1);
        x.deliverAll();
        dueRecord(x, 1, 0, 510, 8190, 0, 1, 1);
        dueRecord(x, 2, 0, 511, 8191, 0, 1, 1);
    }

    private static void strideEdgesInRecords() {
        HeaderSqueezer x = with(2, 1);
        x.setStrides(0, 0);
        x.send();
        x.setStrides(9, 9);
        due("sizeWith(2, 1) by the strides 0", x.sizeWith(2, 1), 3);
        x.send();
        x.send();
        due("sent(2, 4)", x.sent(2, 4), 3);
        x.deliverAll();
        dueRecord(x, 0, 0, 0, 0, 0, 0, 0);
        dueRecord(x, 2, 0, 0, 0, 0, 0, 0);
    }

    private static void numbersModulo64() {
        for (int policy = 1; policy < 3; policy++) {
            HeaderSqueezer x = with(policy, 1);
            streamAndDeliver(x, 200);
            due("right ones of 200 by policy " + policy, x.count(2), 200);
            due("highest()", x.highest(), 199);
            due("full ones", x.count(7), 1);
            x.stream(1);
            due("told 200 % 64", x.numberFor(200 % 64), 200);
            due("deliver(0) of packet 200", x.deliver(0), 0);
        }
    }

    private static void distancesFrom1To15() {
        for (int policy = 1; policy < 3; policy++) {
            HeaderSqueezer x = withFirstAcknowledged(policy);
            x.setReceiver(15, 1, 2);
            x.stream(15);
            for (int packet = 1; packet <= 15; packet++) {
                due("reference of packet " + packet, x.sent(packet, 6), 0);
            }
            for (int index = 14; index >= 0; index -= 2) {
                due("deliver(" + index + ")", x.deliver(index), 0);
            }
            HeaderSqueezer y = with(policy, 1);
            y.stream(20);
            due("deliverAll() by the distance 1", y.deliverAll(), 20);
            due("right ones", y.count(2), 20);
        }
    }

    /** The base of the receiver is another one than the sender's: only what is carried comes over. */
    private static void addressAndFlagsIfTheyDiffer() {
        HeaderSqueezer x = withPacketHeldBack(1);
        x.deliver(0);
        dueRecord(x, 65, 0, 0, 0, 0, 1, 160);
        for (int carried = 0; carried < 4; carried++) {
            HeaderSqueezer y = with(1, 1);
            setHeader(y, 5, 0, 0, 6);
            y.send();
            y.setField(0, (carried & 1) == 0 ? 5 : 0);
            y.setField(3, (carried & 2) == 0 ? 6 : 0);
            y.send();
            y.lose(0);
            setHeader(y, 200, 0, 0, 9);
            sendAndLose(y, 1, 64);
            y.send();
            y.deliver(1);
            due("deliver(0) of packet 1", y.deliver(0), 1);
            dueRecord(y, 65, (carried & 1) == 0 ? 200 : 0, 0, 0, (carried & 2) == 0 ? 9 : 0);
        }
    }

    /** The strides of the sender have changed since the reference, and those of records go on. */
    private static void relativeStridesAreTheReferences() {
        for (int policy = 1; policy < 3; policy++) {
            HeaderSqueezer x = with(policy, 1);
            x.setStrides(5, 100);
            x.send();
            x.setStrides(7, 300);
            x.send();
            x.setStrides(8, 400);
            x.send();
            x.setField(1, 5);
            x.setField(2, 100);
            due("sizeWith(2, 1)", x.sizeWith(2, 1), 3);
            due("sizeWith(1, 1)", x.sizeWith(1, 1), 5);
            x.deliverAll();
            dueRecord(x, 1, 0, 0, 0, 0, 5, 100);
            dueRecord(x, 2, 0, 0, 0, 0, 5, 100);
        }
    }

    private static void baseOfDelta() {
        HeaderSqueezer x = with(1, 1);
        setHeader(x, 1, 1000, 2000, 3);
        x.setStrides(255, 4095);
        x.send();
        due("sizeWith(1, 1) of the same header", x.sizeWith(1, 1), 3);
        x.send();
        x.setField(1, 1127);
        x.setPolicy(1, 2);
        due("sizeWith(1, 2) of the distance 2", x.sizeWith(1, 2), 4);
        x.send();
        due("deliverAll()", x.deliverAll(), 3);
        due("right ones", x.count(2), 3);
        dueRecord(x, 2, 1, 1127, 2000, 3, 255, 4095);
    }

    private static void baseOfPattern(int distance) {
        HeaderSqueezer x = with(0, 0);
        x.setStrides(255, 4095);
        setHeader(x, 9, 65000, 65001, 4);
        x.send();
        x.deliver(0);
        x.deliverBack(0);
        for (int sent = 1; sent < distance; sent++) {
            x.send();
            x.lose(0);
        }
        x.setPolicy(2, 0);
        int sequence = (65000 + distance * 255) % 65536;
        int time = (65001 + distance * 4095) % 65536;
        x.setField(1, sequence);
        x.setField(2, time);
        due("sizeWith(2, 0) at the distance " + distance, x.sizeWith(2, 0), 3);
        x.setField(2, (time + 65535) % 65536);
        x.setField(1, (sequence + 1) % 65536);
        due("sizeWith(2, 0) one off", x.sizeWith(2, 0), 5);
        x.setField(0, 8);
        x.setField(3, 5);
        x.send();
        due("deliver(0)", x.deliver(0), 0);
        dueRecord(x, distance, 8, (sequence + 1) % 65536, (time + 65535) % 65536, 5, 255, 4095);
    }

    // ---- sizes

    private static void fullSizes() {
        HeaderSqueezer x = new HeaderSqueezer();
        x.send();
        setHeader(x, 255, 65535, 65535, 15);
        x.setStrides(255, 4095);
        x.send();
        due("sent(0, 4)", x.sent(0, 4), 12);
        due("sent(1, 4)", x.sent(1, 4), 12);
        due("sizeWith(0, 0)", x.sizeWith(0, 0), 12);
    }

    private static void smallestSize() {
        for (int policy = 1; policy < 3; policy++) {
            HeaderSqueezer x = with(policy, 1);
            x.setStrides(0, 0);
            setHeader(x, 255, 65535, 65535, 15);
            x.send();
            x.send();
            dueHeader(x, 1, 255, 65535, 65535, 15, 3, policy, 0);
        }
    }

    private static void sizeOfSmallField(int field, int most) {
        int[][] pairs = {{0, most, 1}, {most, 0, 1}, {0, 1, 1}, {most, most, 0}, {0, 0, 0}, {5, 4, 1}};
        for (int[] pair : pairs) {
            HeaderSqueezer x = with(1, 1);
            x.setField(field, pair[0]);
            x.send();
            x.setField(field, pair[1]);
            x.send();
            due("sent(1, 4) from " + pair[0] + " to " + pair[1], x.sent(1, 4), 3 + pair[2]);
            x.deliverAll();
            due("record(1, " + field + ")", x.record(1, field), pair[1]);
        }
    }

    /** The bytes of a sequence's or a time's difference, for a delta and for a pattern. */
    private static void sizesOfClock(int field) {
        int[] differences = {0, 1, -1, 126, 127, 128, -127, -128, -129, 255, 256};
        int[] bytes = {0, 1, 1, 1, 1, 2, 1, 1, 2, 2, 2};
        for (int policy = 1; policy < 3; policy++) {
            for (int i = 0; i < differences.length; i++) {
                HeaderSqueezer x = with(policy, 1);
                setHeader(x, 0, 3000, 4000, 0);
                x.send();
                if (policy == 2) {
                    x.advance();
                }
                x.setField(field, x.field(field) + differences[i]);
                due("sizeWith(" + policy + ", 1) of the difference " + differences[i],
                        x.sizeWith(policy, 1), 3 + bytes[i]);
                x.send();
                due("sent(1, 4) of the difference " + differences[i], x.sent(1, 4), 3 + bytes[i]);
                x.deliverAll();
                due("right ones", x.count(2), 2);
            }
        }
    }

    private static void greatestSize() {
        for (int policy = 1; policy < 3; policy++) {
            HeaderSqueezer x = with(policy, 1);
            x.send();
            setHeader(x, 1, 30000, 30000, 1);
            x.send();
            dueHeader(x, 1, 1, 30000, 30000, 1, 9, policy, 0);
        }
    }

    private static void plainSize() {
        HeaderSqueezer x = with(1, 1);
        due("saved() of none", x.saved(), 0);
        x.send();
        due("saved() of a full one", x.saved(), 6 - 12);
        x.send();
        due("saved() with a delta of 3", x.saved(), 12 - 15);
        x.send();
        due("saved() with two deltas of 3", x.saved(), 18 - 18);
        x.send();
        due("saved() with three deltas of 3", x.saved(), 24 - 21);
    }

    private static void headers() {
        sentence("An object is used for at most 512 calls", SendingSentences::answersAll512Calls);
        sentence("A header has four fields", SendingSentences::fieldsThatThereAre);
        sentence("0 address (0 to 255)", () -> fieldRange(0, 255));
        sentence("1 sequence (0 to 65535)", () -> fieldRange(1, 65535));
        sentence("2 time (0 to 65535)", () -> fieldRange(2, 65535));
        sentence("3 flags (0 to 15)", () -> fieldRange(3, 15));
        sentence("Sequence and time are taken modulo 65536.", () -> {
            moduloByAdvancing();
            moduloOfPatterns();
        });
        sentence("The difference of a sequence or time x to another one y is the number from -32768 "
                + "to 32767 that is equal to x - y modulo 65536.", () -> {
            dueDifferences(1);
            dueDifferences(2);
        });
        sentence("a present header, initially all 0", SendingSentences::initialHeader);
        sentence("a sequence stride, 0 to 255, initially 1", SendingSentences::sequenceStrides);
        sentence("a time stride, 0 to 4095, initially 160", SendingSentences::timeStrides);
        sentence("To advance means: the sequence of the present header increases by the sequence "
                + "stride, its time by the time stride.", SendingSentences::advancingLeavesTheRest);
    }

    private static void records() {
        sentence("Packets are numbered from 0 in the order in which they are sent",
                SendingSentences::numbersInOrder);
        sentence("at most 500 can be sent", SendingSentences::fiveHundredAtMost);
        sentence("and whether it has been acknowledged", SendingSentences::acknowledgedOrNot);
        sentence("The receiver keeps records of packets that it has decoded (their headers and "
                + "strides).", SendingSentences::recordsOfDecodedAlone);
    }

    private static void references() {
        sentence("There are a policy, 0 full (initially), 1 delta, 2 pattern",
                SendingSentences::policyIsFullAtFirst);
        sentence("and a confidence, 0 to 15, initially 0", SendingSentences::confidenceIsNoneAtFirst);
        sentence("a packet m below N is trusted if it has been acknowledged",
                SendingSentences::trustByAcknowledgment);
        sentence("if the confidence c is above 0, if N - m is at least c", SendingSentences::trustByAge);
        sentence("The reference is the trusted packet with the highest number",
                SendingSentences::highestOfTheTrusted);
        sentence("if N - m is at most 15 for it; otherwise there is none.",
                SendingSentences::distanceAtMost15);
        sentence("The form of the packet is full if the policy is 0", SendingSentences::fullByPolicy);
        sentence("if there is no reference", SendingSentences::fullWithoutReference);
        sentence("or if a repair is due (which is over then)", () -> {
            fullByRepairOnce();
            repairIsDueOrNot();
        });
        sentence("otherwise it is delta or pattern, by the policy.", SendingSentences::formByPolicy);
    }

    private static void packets() {
        sentence("A full packet carries its number", SendingSentences::fullNumberIsTold);
        sentence("and the strides of the sender; these are the strides of its record.", () -> {
            fullCarriesTheSendersStrides();
            strideEdgesInRecords();
        });
        sentence("A delta or a pattern packet carries its number modulo 64",
                SendingSentences::numbersModulo64);
        sentence("the distance N - m", SendingSentences::distancesFrom1To15);
        sentence("and its address and its flags if they differ from those of the base",
                SendingSentences::addressAndFlagsIfTheyDiffer);
        sentence("the strides of its record are those of the record of its reference.",
                SendingSentences::relativeStridesAreTheReferences);
        sentence("The base is for delta the header of the reference", SendingSentences::baseOfDelta);
        sentence("for pattern the header of the reference with (distance * sequence stride) added to "
                + "its sequence and (distance * time stride) added to its time, with the strides of "
                + "the record of the reference.", () -> {
            baseOfPattern(1);
            baseOfPattern(2);
            baseOfPattern(15);
        });
    }

    private static void sizes() {
        sentence("a full packet has 12", SendingSentences::fullSizes);
        sentence("a delta or pattern packet 3", SendingSentences::smallestSize);
        sentence("plus 1 if the address differs from that of the base", () -> sizeOfSmallField(0, 255));
        sentence("plus 0, 1 or 2 for the sequence (0 if its difference to that of the base is 0; 1 if "
                + "it is from -128 to 127; otherwise 2)", () -> sizesOfClock(1));
        sentence("the same for the time", () -> sizesOfClock(2));
        sentence("plus 1 if the flags differ", () -> {
            sizeOfSmallField(3, 15);
            greatestSize();
        });
        sentence("The plain size of each header is 6.", SendingSentences::plainSize);
    }

    public static void main(String[] args) throws IOException {
        readDocument();
        headers();
        records();
        references();
        packets();
        sizes();
        finishSentences();
    }
}
