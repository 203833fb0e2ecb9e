/** For each promise of the document: ordinary calls, the edges that it names, and wrong calls. */
public final class PromisesTest extends Checks {
    private static void due(int promise, String call, long got, long want) {
        about("promise " + promise);
        due(call, got, want);
    }

    private static void refused(int promise, HeaderSqueezer x, Class<?> want, String name, Call call) {
        about("promise " + promise);
        refused(x, want, name, call);
    }

    private static void undoable(
            int promise, HeaderSqueezer x, int savedBefore, String name, long want, Call call) {
        about("promise " + promise);
        undoable(x, savedBefore, name, want, call);
    }

    private static void onlyAnswers(int promise, HeaderSqueezer x, String name, long want, Call call) {
        about("promise " + promise);
        onlyAnswers(x, name, want, call);
    }

    private static void promise1() {
        HeaderSqueezer x = new HeaderSqueezer();
        due(1, "NONE", HeaderSqueezer.NONE, -1);
        for (int field = 0; field < 4; field++) {
            due(1, "field(" + field + ")", x.field(field), 0);
        }
        for (int what = 0; what < 8; what++) {
            due(1, "count(" + what + ")", x.count(what), 0);
        }
        dueLink(x, false);
        dueLink(x, true);
        due(1, "highest()", x.highest(), -1);
        due(1, "records()", x.records(), 0);
        due(1, "reference()", x.reference(), NONE);
        due(1, "numberFor(61), by depth 3", x.numberFor(61), -3);
        due(1, "numberFor(60), by depth 3", x.numberFor(60), 60);
        due(1, "clearText()", x.clearText(), 0);
        refused(1, x, STATE, "undo()", x::undo);
        due(1, "setStrides(0, 0)", x.setStrides(0, 0), 160);
        due(1, "setPolicy(2, 15)", x.setPolicy(2, 15), 0);
        due(1, "setReceiver(0, 1, 1)", x.setReceiver(0, 1, 1), 3);
        HeaderSqueezer y = new HeaderSqueezer();
        y.advance();
        due(1, "sequence after advance(), by stride 1", y.field(1), 1);
        due(1, "time after advance(), by stride 160", y.field(2), 160);
        due(1, "two objects share nothing: field(1)", x.field(1), 0);
    }

    private static void promise2() {
        int[] most = {255, 65535, 65535, 15};
        for (int field = 0; field < 4; field++) {
            HeaderSqueezer x = new HeaderSqueezer();
            int f = field;
            undoable(2, x, 0, "setField(" + f + ", 7)", 0, () -> x.setField(f, 7));
            due(2, "setField to the most", x.setField(f, most[f]), 0);
            due(2, "setField to 0", x.setField(f, 0), most[f]);
            due(2, "field", x.field(f), 0);
            due(2, "setField to 9", x.setField(f, 9), 0);
            undoable(2, x, 3, "setField to the same", 9, () -> x.setField(f, 9));
            for (int other = 0; other < 4; other++) {
                due(2, "field(" + other + ")", x.field(other), other == f ? 9 : 0);
            }
            refused(2, x, ARGUMENT, "setField(" + f + ", most + 1)", () -> x.setField(f, most[f] + 1));
            for (int bad : WRONG_INTS) {
                refused(2, x, ARGUMENT, "setField(" + f + ", " + bad + ")", () -> x.setField(f, bad));
            }
        }
        HeaderSqueezer x = new HeaderSqueezer();
        for (int bad : WRONG_INTS) {
            refused(2, x, BOUNDS, "setField(" + bad + ", 0)", () -> x.setField(bad, 0));
            refused(2, x, BOUNDS, "setField(4, " + bad + ")", () -> x.setField(4, bad));
        }
        refused(2, x, BOUNDS, "setField(4, 0)", () -> x.setField(4, 0));
    }

    private static void promise3() {
        HeaderSqueezer x = new HeaderSqueezer();
        undoable(3, x, 0, "setStrides(2, 3)", 160, () -> x.setStrides(2, 3));
        due(3, "setStrides(255, 4095)", x.setStrides(255, 4095), 160);
        due(3, "advance()", x.advance(), 255);
        due(3, "field(2)", x.field(2), 4095);
        due(3, "setStrides(0, 0)", x.setStrides(0, 0), 4095);
        due(3, "advance() with stride 0", x.advance(), 255);
        due(3, "field(2) with stride 0", x.field(2), 4095);
        refused(3, x, ARGUMENT, "setStrides(256, 0)", () -> x.setStrides(256, 0));
        refused(3, x, ARGUMENT, "setStrides(0, 4096)", () -> x.setStrides(0, 4096));
        for (int bad : WRONG_INTS) {
            refused(3, x, ARGUMENT, "setStrides(" + bad + ", 0)", () -> x.setStrides(bad, 0));
            refused(3, x, ARGUMENT, "setStrides(0, " + bad + ")", () -> x.setStrides(0, bad));
        }
    }

    private static void promise4() {
        HeaderSqueezer x = new HeaderSqueezer();
        undoable(4, x, 0, "setPolicy(1, 5)", 0, () -> x.setPolicy(1, 5));
        due(4, "setPolicy(2, 15)", x.setPolicy(2, 15), 0);
        due(4, "setPolicy(1, 0)", x.setPolicy(1, 0), 2);
        due(4, "setPolicy(1, 1)", x.setPolicy(1, 1), 1);
        x.send();
        due(4, "reference() by confidence 1", x.reference(), 0);
        due(4, "setPolicy(1, 2)", x.setPolicy(1, 2), 1);
        due(4, "reference() by confidence 2", x.reference(), NONE);
        refused(4, x, ARGUMENT, "setPolicy(3, 0)", () -> x.setPolicy(3, 0));
        refused(4, x, ARGUMENT, "setPolicy(0, 16)", () -> x.setPolicy(0, 16));
        for (int bad : WRONG_INTS) {
            refused(4, x, ARGUMENT, "setPolicy(" + bad + ", 0)", () -> x.setPolicy(bad, 0));
            refused(4, x, ARGUMENT, "setPolicy(0, " + bad + ")", () -> x.setPolicy(0, bad));
        }
    }

    private static void promise5() {
        HeaderSqueezer x = new HeaderSqueezer();
        x.setField(1, 65535);
        x.setField(2, 65400);
        undoable(5, x, 2, "advance() over the end", 0, x::advance);
        x.advance();
        due(5, "field(1)", x.field(1), 0);
        due(5, "field(2)", x.field(2), 24);
        due(5, "advance()", x.advance(), 1);
        x.setStrides(0, 0);
        undoable(5, x, 4, "advance() with strides 0", 1, x::advance);
        due(5, "waiting(false)", x.waiting(false), 0);
    }

    private static void promise6() {
        HeaderSqueezer x = with(1, 0);
        x.setField(0, 9);
        x.setField(3, 4);
        undoable(6, x, 3, "send()", 0, x::send);
        due(6, "send()", x.send(), 0);
        dueHeader(x, 0, 9, 0, 0, 4, 12, 0, NONE, 0);
        due(6, "send() without a reference", x.send(), 1);
        dueHeader(x, 1, 9, 0, 0, 4, 12, 0, NONE, 0);
        x.setPolicy(1, 2);
        due(6, "send() of a delta", x.send(), 2);
        dueHeader(x, 2, 9, 0, 0, 4, 3, 1, 0, 0);
        x.setPolicy(0, 1);
        x.send();
        dueHeader(x, 3, 9, 0, 0, 4, 12, 0, NONE, 0);
        x.setPolicy(2, 1);
        x.send();
        // The pattern expects one stride more than the header has.
        dueHeader(x, 4, 9, 0, 0, 4, 6, 2, 3, 0);
        dueLink(x, false, 0, 1, 2, 3, 4);
        x.stream(15);
        refused(6, x, STATE, "send() into a full link", x::send);
        x.lose(0);
        due(6, "send()", x.send(), 20);
        sendAll500();
        sendStrides();
        sendRepair();
    }

    private static void sendAll500() {
        HeaderSqueezer x = with(2, 1);
        for (int i = 0; i < 24; i++) {
            x.stream(20);
            x.deliverAll();
        }
        x.stream(19);
        x.deliverAll();
        refused(7, x, STATE, "stream(2) with 499 sent", () -> x.stream(2));
        due(6, "send() of the last packet", x.send(), 499);
        refused(6, x, STATE, "send() with 500 sent", x::send);
        refused(7, x, STATE, "stream(1) with 500 sent", () -> x.stream(1));
        refused(7, x, ARGUMENT, "stream(0) with 500 sent", () -> x.stream(0));
        due(31, "carryOut() of s; with 500 sent", run(x, "s;"), -1000);
        due(10, "reference() with 500 sent", x.reference(), 499);
        due(9, "sizeWith(2, 1) with 500 sent", x.sizeWith(2, 1), 6);
        dueHeader(x, 499, 0, 499, 79840 - 65536, 0);
        due(22, "record(498, 1)", x.record(498, 1), 499);
        due(25, "count(2)", x.count(2), 499);
    }

    /** A relative packet has the strides of its reference's record, not the sender's. */
    private static void sendStrides() {
        HeaderSqueezer x = with(2, 1);
        x.setStrides(5, 100);
        x.stream(2);
        x.setStrides(7, 300);
        x.stream(2);
        dueHeader(x, 2, 0, 17, 500, 0, 6, 2, 1);
        dueHeader(x, 3, 0, 24, 800, 0, 6, 2, 2);
        x.setPolicy(0, 1);
        x.stream(1);
        x.setPolicy(2, 1);
        x.stream(1);
        dueHeader(x, 5, 0, 38, 1400, 0, 3, 2, 4);
        due(6, "deliverAll()", x.deliverAll(), 6);
        due(6, "record(3, 4)", x.record(3, 4), 5);
        due(6, "record(3, 5)", x.record(3, 5), 100);
        due(6, "record(5, 4)", x.record(5, 4), 7);
        due(6, "record(5, 5)", x.record(5, 5), 300);
    }

    /** A repair makes one packet full, and is over with it, under whatever policy. */
    private static void sendRepair() {
        for (int policy = 0; policy < 3; policy++) {
            HeaderSqueezer x = with(1, 1);
            x.setReceiver(3, 16, 1);
            x.send();
            x.send();
            x.lose(0);
            due(6, "deliver(0)", x.deliver(0), 2);
            due(6, "deliverBack(0)", x.deliverBack(0), NONE);
            due(9, "sizeWith(1, 1) with a repair due", x.sizeWith(1, 1), 12);
            due(9, "sizeWith(2, 1) with a repair due", x.sizeWith(2, 1), 12);
            due(10, "reference() with a repair due", x.reference(), 1);
            x.setPolicy(policy, 1);
            x.send();
            dueHeader(x, 2, 0, 0, 0, 0, 12, 0, NONE);
            due(9, "sizeWith(1, 1) after the repair", x.sizeWith(1, 1), 3);
            x.setPolicy(1, 1);
            x.send();
            dueHeader(x, 3, 0, 0, 0, 0, 3, 1, 2);
        }
    }

    private static void promise7() {
        HeaderSqueezer x = new HeaderSqueezer();
        undoable(7, x, 0, "stream(20)", 20, () -> x.stream(20));
        due(7, "stream(1)", x.stream(1), 1);
        due(7, "stream(18)", x.stream(18), 19);
        dueHeader(x, 0, 0, 1, 160, 0);
        dueHeader(x, 18, 0, 19, 3040, 0);
        due(7, "field(1)", x.field(1), 19);
        refused(7, x, STATE, "stream(2)", () -> x.stream(2));
        undoable(7, x, 2, "stream(1)", 20, () -> x.stream(1));
        refused(7, x, ARGUMENT, "stream(0)", () -> x.stream(0));
        refused(7, x, ARGUMENT, "stream(21)", () -> x.stream(21));
        for (int bad : WRONG_INTS) {
            refused(7, x, ARGUMENT, "stream(" + bad + ")", () -> x.stream(bad));
        }
    }

    private static void promise8() {
        HeaderSqueezer x = new HeaderSqueezer();
        int[] values = {200, 40000, 50000, 11};
        for (int field = 0; field < 4; field++) {
            int f = field;
            x.setField(f, values[f]);
            onlyAnswers(8, x, "field(" + f + ")", values[f], () -> x.field(f));
        }
        refused(8, x, BOUNDS, "field(4)", () -> x.field(4));
        for (int bad : WRONG_INTS) {
            refused(8, x, BOUNDS, "field(" + bad + ")", () -> x.field(bad));
        }
    }

    private static void promise9() {
        HeaderSqueezer x = new HeaderSqueezer();
        x.setField(0, 1);
        x.setField(1, 30);
        x.setField(2, 40);
        x.setStrides(10, 20);
        onlyAnswers(9, x, "sizeWith(1, 15) of the first", 12, () -> x.sizeWith(1, 15));
        x.send();
        onlyAnswers(9, x, "sizeWith(0, 1)", 12, () -> x.sizeWith(0, 1));
        onlyAnswers(9, x, "sizeWith(1, 0)", 12, () -> x.sizeWith(1, 0));
        onlyAnswers(9, x, "sizeWith(1, 1)", 3, () -> x.sizeWith(1, 1));
        onlyAnswers(9, x, "sizeWith(2, 1)", 5, () -> x.sizeWith(2, 1));
        sizesBy(1, 30, 1, 40);
        x.send();
        // From packet 0 the pattern is two strides on.
        x.setField(1, 50);
        x.setField(2, 80);
        onlyAnswers(9, x, "sizeWith(2, 2)", 3, () -> x.sizeWith(2, 2));
        onlyAnswers(9, x, "sizeWith(2, 1)", 5, () -> x.sizeWith(2, 1));
        onlyAnswers(9, x, "sizeWith(2, 3)", 12, () -> x.sizeWith(2, 3));
        x.setField(0, 2);
        due(9, "sizeWith(2, 2), another address", x.sizeWith(2, 2), 4);
        x.setField(3, 2);
        due(9, "sizeWith(2, 2), other flags too", x.sizeWith(2, 2), 5);
        x.setField(1, 0);
        x.setField(2, 32768);
        due(9, "sizeWith(2, 2), all differs", x.sizeWith(2, 2), 8);
        refused(9, x, ARGUMENT, "sizeWith(3, 0)", () -> x.sizeWith(3, 0));
        refused(9, x, ARGUMENT, "sizeWith(0, 16)", () -> x.sizeWith(0, 16));
        for (int bad : WRONG_INTS) {
            refused(9, x, ARGUMENT, "sizeWith(" + bad + ", 0)", () -> x.sizeWith(bad, 0));
            refused(9, x, ARGUMENT, "sizeWith(0, " + bad + ")", () -> x.sizeWith(0, bad));
        }
    }

    /** The bytes of a difference of a sequence or a time, round the end of their range too. */
    private static void sizesBy(int confidence, int sequence, int policy, int time) {
        int[] differences = {0, 1, -1, 127, 128, -128, -129, 32767, -32768};
        int[] bytes = {0, 1, 1, 1, 2, 1, 2, 2, 2};
        for (int i = 0; i < differences.length; i++) {
            HeaderSqueezer x = with(1, 1);
            x.setField(1, sequence);
            x.setField(2, time);
            x.send();
            x.setField(1, (sequence + differences[i]) & 65535);
            due(9, "sizeWith of a sequence's difference " + differences[i],
                    x.sizeWith(policy, confidence), 3 + bytes[i]);
            x.setField(1, sequence);
            x.setField(2, (time + differences[i]) & 65535);
            due(9, "sizeWith of a time's difference " + differences[i],
                    x.sizeWith(policy, confidence), 3 + bytes[i]);
            x.send();
            x.deliverAll();
            due(12, "right packets with the difference " + differences[i], x.count(2), 2);
        }
    }

    private static void promise10() {
        HeaderSqueezer x = new HeaderSqueezer();
        due(10, "reference() of the first", x.reference(), NONE);
        x.setPolicy(0, 15);
        x.stream(14);
        due(10, "reference() by confidence 15 of 14", x.reference(), NONE);
        x.send();
        onlyAnswers(10, x, "reference() by confidence 15 of 15", 0, x::reference);
        x.setPolicy(0, 4);
        due(10, "reference() by confidence 4 of 15", x.reference(), 11);
        x.deliver(2);
        x.deliver(2);
        x.deliverBack(0);
        due(10, "reference(), an acknowledged one is older", x.reference(), 11);
        x.setPolicy(0, 14);
        due(10, "reference(), an acknowledged one is newer", x.reference(), 2);
        x.setPolicy(0, 0);
        due(10, "reference() by acknowledgment alone", x.reference(), 2);
        x.send();
        x.send();
        due(10, "reference() at the distance 15", x.reference(), 2);
        x.send();
        due(10, "reference() at the distance 16", x.reference(), NONE);
        x.deliverBack(0);
        due(10, "reference() after packet 3 is acknowledged", x.reference(), 3);
    }

    private static void promise11() {
        HeaderSqueezer x = with(1, 1);
        refused(11, x, BOUNDS, "sent(0, 0) of none", () -> x.sent(0, 0));
        x.setField(0, 3);
        x.setField(1, 10);
        x.setField(2, 500);
        x.setField(3, 6);
        x.send();
        x.setField(0, 4);
        x.advance();
        x.send();
        x.setPolicy(2, 2);
        x.send();
        dueHeader(x, 0, 3, 10, 500, 6, 12, 0, NONE, 0);
        dueHeader(x, 1, 4, 11, 660, 6, 7, 1, 0, 0);
        dueHeader(x, 2, 4, 11, 660, 6, 7, 2, 0, 0);
        onlyAnswers(11, x, "sent(1, 2)", 660, () -> x.sent(1, 2));
        x.deliver(0);
        due(11, "sent(0, 7) before the acknowledgment comes", x.sent(0, 7), 0);
        x.deliverBack(0);
        due(11, "sent(0, 7)", x.sent(0, 7), 1);
        due(11, "sent(1, 7)", x.sent(1, 7), 0);
        refused(11, x, BOUNDS, "sent(3, 0)", () -> x.sent(3, 0));
        refused(11, x, BOUNDS, "sent(3, 8)", () -> x.sent(3, 8));
        refused(11, x, ARGUMENT, "sent(2, 8)", () -> x.sent(2, 8));
        for (int bad : WRONG_INTS) {
            refused(11, x, BOUNDS, "sent(" + bad + ", 0)", () -> x.sent(bad, 0));
            refused(11, x, BOUNDS, "sent(" + bad + ", 8)", () -> x.sent(bad, 8));
            refused(11, x, ARGUMENT, "sent(0, " + bad + ")", () -> x.sent(0, bad));
        }
        x.undo();
        x.undo();
        x.undo();
        x.undo();
        refused(11, x, BOUNDS, "sent(2, 0) after undo()", () -> x.sent(2, 0));
    }

    private static void promise12() {
        HeaderSqueezer x = with(1, 1);
        refused(12, x, BOUNDS, "deliver(0) of an empty link", () -> x.deliver(0));
        x.stream(4);
        x.copy(0);
        undoable(12, x, 3, "deliver(1), its reference is missing", 2, () -> x.deliver(1));
        undoable(12, x, 3, "deliver(0)", 0, () -> x.deliver(0));
        due(12, "deliver(1)", x.deliver(1), 2);
        due(12, "deliver(0)", x.deliver(0), 0);
        dueLink(x, false, 2, 3, 0);
        undoable(12, x, 4, "deliver(2) of a copy", 3, () -> x.deliver(2));
        due(12, "deliver(2) of a copy", x.deliver(2), 3);
        due(12, "deliver(0), its reference was lost", x.deliver(0), 2);
        due(12, "count(6) after one unknown one since the last decoded one", x.count(6), 0);
        due(12, "deliver(0), its reference was unknown", x.deliver(0), 2);
        due(12, "count(6) after two unknown ones in a row", x.count(6), 1);
        refused(12, x, BOUNDS, "deliver(0), all delivered", () -> x.deliver(0));
        for (int bad : WRONG_INTS) {
            refused(12, x, BOUNDS, "deliver(" + bad + ")", () -> x.deliver(bad));
        }
        deliverRowsOfUnknown();
        deliverCarriedFields();
        deliverWrongOnes();
        deliverOldOnes();
        deliverInterval();
    }

    /** Only a decoded packet ends a row of unknown ones; a repetition does not. */
    private static void deliverRowsOfUnknown() {
        HeaderSqueezer x = with(1, 1);
        x.setReceiver(3, 16, 3);
        x.send();
        x.copy(0);
        x.copy(0);
        x.stream(8);
        x.deliver(0);
        due(12, "an unknown one", x.deliver(3), 2);
        due(12, "an unknown one", x.deliver(3), 2);
        due(12, "a repetition", x.deliver(0), 3);
        due(12, "count(6)", x.count(6), 0);
        due(12, "the third unknown one", x.deliver(2), 2);
        due(12, "count(6)", x.count(6), 1);
        due(12, "the row begins anew", x.deliver(3), 2);
        due(12, "the second of the new row", x.deliver(3), 2);
        due(12, "a decoded one ends the row", x.deliver(1), 0);
        due(12, "an unknown one", x.deliver(2), 2);
        due(12, "count(6)", x.count(6), 1);
        dueLink(x, true, NONE);
        x.setReceiver(3, 16, 1);
        due(12, "an unknown one, the second, by patience 1", x.deliver(1), 2);
        due(12, "count(6)", x.count(6), 2);
        dueLink(x, true, NONE, NONE);
    }

    private static void deliverCarriedFields() {
        HeaderSqueezer x = with(1, 1);
        x.setField(0, 200);
        x.setField(3, 3);
        x.send();
        x.setField(0, 100);
        x.send();
        x.setField(3, 9);
        x.send();
        x.setField(0, 0);
        x.setField(3, 0);
        x.setField(1, 40000);
        x.setField(2, 20000);
        x.send();
        due(12, "deliverAll() of packets that carry fields", x.deliverAll(), 4);
        due(12, "count(2)", x.count(2), 4);
        dueRecord(x, 1, 100, 0, 0, 3, 1, 160);
        dueRecord(x, 2, 100, 0, 0, 9, 1, 160);
        dueRecord(x, 3, 0, 40000, 20000, 0, 1, 160);
    }

    private static void deliverWrongOnes() {
        HeaderSqueezer x = with(1, 1);
        x.setField(0, 5);
        x.send();
        x.setField(0, 6);
        x.stream(1);
        x.lose(0);
        sendAndLose(x, 1, 64);
        x.setField(0, 7);
        x.setField(1, 1000);
        x.setField(2, 2000);
        x.setField(3, 8);
        x.setStrides(3, 50);
        x.send();
        due(12, "deliver(1) of packet 64", x.deliver(1), 0);
        x.setPolicy(1, 1);
        // Packet 1 is told as 1, and the receiver takes it for 65 and adds it to packet 64.
        due(24, "numberFor(1)", x.numberFor(1), 65);
        due(12, "deliver(0) of packet 1", x.deliver(0), 1);
        dueRecord(x, 65, 6, 1001, 2160, 8, 3, 50);
        dueLink(x, true, 64, 65);
        due(16, "deliverBack(1) of a number never sent", x.deliverBack(1), 65);
        x.setPolicy(1, 0);
        due(10, "reference() after it", x.reference(), NONE);
        x.setPolicy(1, 1);
        x.send();
        due(12, "deliver(0) of packet 65, a number that is taken", x.deliver(0), 3);
        x.send();
        // The number of packet 66 is right, but it builds on the wrong record 65.
        due(12, "deliver(0) of packet 66", x.deliver(0), 1);
        dueRecord(x, 66, 6, 1001, 2160, 8, 3, 50);
        dueHeader(x, 66, 7, 1000, 2000, 8, 3, 1, 65, 0);
        dueCounts(x, 67, 3, 1, 2, 0, 1, 0, 64);
        due(27, "lateness()", x.lateness(), 63);
    }

    /** A full packet that is 64 below the highest is decoded, but no record of it is kept. */
    private static void deliverOldOnes() {
        HeaderSqueezer x = new HeaderSqueezer();
        x.send();
        x.send();
        x.copy(0);
        sendAndLose(x, 3, 64);
        x.send();
        x.deliver(3);
        due(21, "highest()", x.highest(), 64);
        due(12, "deliver(0) of packet 0", x.deliver(0), 0);
        due(22, "record(0, 0)", x.record(0, 0), NONE);
        due(22, "record(64, 0)", x.record(64, 0), 0);
        due(23, "records()", x.records(), 1);
        due(12, "deliver(1) of packet 0 again", x.deliver(1), 0);
        due(12, "deliver(0) of packet 1", x.deliver(0), 0);
        due(23, "records()", x.records(), 2);
        due(22, "record(1, 0)", x.record(1, 0), 0);
        dueLink(x, true, 64, 0, 0, 1);
        dueCounts(x, 65, 4, 4, 0, 0, 0, 0, 65);
        x.send();
        x.deliver(0);
        due(22, "record(1, 0) after 65", x.record(1, 0), NONE);
        due(23, "records() after 65", x.records(), 2);
    }

    private static void deliverInterval() {
        HeaderSqueezer x = new HeaderSqueezer();
        x.setReceiver(3, 3, 2);
        x.stream(8);
        x.copy(0);
        x.deliver(5);
        x.deliver(0);
        due(12, "waiting(true) after two", x.waiting(true), 0);
        due(12, "a repetition", x.deliver(6), 3);
        due(12, "waiting(true) after a repetition", x.waiting(true), 0);
        x.deliver(1);
        dueLink(x, true, 2);
        x.deliverAll();
        dueLink(x, true, 2, 4);
        due(12, "count(1)", x.count(1), 8);
        x.setReceiver(3, 1, 2);
        x.stream(20);
        x.deliverAll();
        due(12, "waiting(true), full", x.waiting(true), 20);
        due(12, "the last message that found room", x.waitingAt(true, 19), 25);
        x.setPolicy(1, 1);
        x.setReceiver(3, 1, 1);
        x.stream(2);
        x.lose(0);
        due(12, "unknown with a full return link", x.deliver(0), 2);
        due(12, "count(6) of a request lost at once", x.count(6), 1);
        due(12, "waiting(true), full", x.waiting(true), 20);
        due(12, "waitingAt(true, 19)", x.waitingAt(true, 19), 25);
    }

    private static void promise13() {
        HeaderSqueezer x = with(1, 1);
        undoable(13, x, 1, "deliverAll() of an empty link", 0, x::deliverAll);
        x.stream(4);
        x.copy(0);
        x.lose(1);
        undoable(13, x, 4, "deliverAll()", 1, x::deliverAll);
        due(13, "deliverAll()", x.deliverAll(), 1);
        dueLink(x, false);
        dueCounts(x, 4, 1, 1, 0, 2, 1, 1, 1);
        dueLink(x, true, 0, NONE);
        deliverAllWrongOnes();
    }

    private static void deliverAllWrongOnes() {
        HeaderSqueezer x = withPacketHeldBack(1);
        x.setField(0, 5);
        x.send();
        x.send();
        x.lose(1);
        due(13, "deliverAll(), a right one and a wrong one", x.deliverAll(), 2);
        dueCounts(x, 67, 3, 2, 1);
    }

    private static void promise14() {
        HeaderSqueezer x = new HeaderSqueezer();
        refused(14, x, BOUNDS, "lose(0) of an empty link", () -> x.lose(0));
        x.stream(3);
        undoable(14, x, 1, "lose(1)", 1, () -> x.lose(1));
        due(14, "lose(1)", x.lose(1), 1);
        dueLink(x, false, 0, 2);
        refused(14, x, BOUNDS, "lose(2)", () -> x.lose(2));
        due(14, "lose(1)", x.lose(1), 2);
        due(14, "lose(0)", x.lose(0), 0);
        dueCounts(x, 3, 0, 0, 0, 0, 0, 0, 3);
        for (int bad : WRONG_INTS) {
            refused(14, x, BOUNDS, "lose(" + bad + ")", () -> x.lose(bad));
        }
    }

    private static void promise15() {
        HeaderSqueezer x = new HeaderSqueezer();
        refused(15, x, BOUNDS, "copy(0) of an empty link", () -> x.copy(0));
        x.stream(3);
        undoable(15, x, 1, "copy(1)", 4, () -> x.copy(1));
        due(15, "copy(1)", x.copy(1), 4);
        due(15, "copy(3)", x.copy(3), 5);
        dueLink(x, false, 0, 1, 2, 1, 1);
        due(15, "count(0)", x.count(0), 3);
        refused(15, x, BOUNDS, "copy(5)", () -> x.copy(5));
        x.stream(14);
        due(15, "copy(0) into the last place", x.copy(0), 20);
        refused(15, x, STATE, "copy(0) in a full link", () -> x.copy(0));
        refused(15, x, BOUNDS, "copy(20) in a full link", () -> x.copy(20));
        for (int bad : WRONG_INTS) {
            refused(15, x, BOUNDS, "copy(" + bad + ")", () -> x.copy(bad));
        }
    }

    /** Two acknowledgments and, between them, a request for repair. */
    private static HeaderSqueezer withMessages() {
        HeaderSqueezer x = with(1, 1);
        x.setReceiver(3, 1, 1);
        x.send();
        x.send();
        x.deliver(0);
        x.lose(0);
        x.send();
        x.deliver(0);
        x.setPolicy(0, 1);
        x.send();
        x.deliver(0);
        x.setPolicy(1, 1);
        return x;
    }

    private static void promise16() {
        HeaderSqueezer x = withMessages();
        dueLink(x, true, 0, NONE, 3);
        undoable(16, x, 4, "deliverBack(0)", 0, () -> x.deliverBack(0));
        undoable(16, x, 3, "deliverBack(1)", NONE, () -> x.deliverBack(1));
        undoable(16, x, 3, "deliverBack(2)", 3, () -> x.deliverBack(2));
        due(16, "deliverBack(2)", x.deliverBack(2), 3);
        due(16, "sent(3, 7)", x.sent(3, 7), 1);
        due(16, "sent(0, 7)", x.sent(0, 7), 0);
        dueLink(x, true, 0, NONE);
        due(16, "sizeWith(1, 1)", x.sizeWith(1, 1), 3);
        due(16, "deliverBack(1)", x.deliverBack(1), NONE);
        due(16, "sizeWith(1, 1) with a repair due", x.sizeWith(1, 1), 12);
        due(16, "deliverBack(0)", x.deliverBack(0), 0);
        due(16, "sent(0, 7)", x.sent(0, 7), 1);
        due(16, "sizeWith(1, 1) with a repair due", x.sizeWith(1, 1), 12);
        refused(16, x, BOUNDS, "deliverBack(0) of an empty link", () -> x.deliverBack(0));
        for (int bad : WRONG_INTS) {
            refused(16, x, BOUNDS, "deliverBack(" + bad + ")", () -> x.deliverBack(bad));
        }
    }

    private static void promise17() {
        HeaderSqueezer x = withMessages();
        undoable(17, x, 4, "loseBack(0)", 0, () -> x.loseBack(0));
        due(17, "loseBack(1)", x.loseBack(1), NONE);
        dueLink(x, true, 0, 3);
        due(17, "loseBack(1)", x.loseBack(1), 3);
        refused(17, x, BOUNDS, "loseBack(1)", () -> x.loseBack(1));
        due(17, "loseBack(0)", x.loseBack(0), 0);
        due(17, "sent(0, 7)", x.sent(0, 7), 0);
        due(17, "sent(3, 7)", x.sent(3, 7), 0);
        due(17, "sizeWith(1, 1), no repair is due", x.sizeWith(1, 1), 3);
        refused(17, x, BOUNDS, "loseBack(0) of an empty link", () -> x.loseBack(0));
        for (int bad : WRONG_INTS) {
            refused(17, x, BOUNDS, "loseBack(" + bad + ")", () -> x.loseBack(bad));
        }
    }

    private static void promises18And19() {
        HeaderSqueezer x = new HeaderSqueezer();
        x.stream(7);
        x.deliver(4);
        x.deliver(1);
        onlyAnswers(18, x, "waiting(false)", 5, () -> x.waiting(false));
        onlyAnswers(18, x, "waiting(true)", 2, () -> x.waiting(true));
        int[] packets = {0, 2, 3, 5, 6};
        for (int index = 0; index < 5; index++) {
            int i = index;
            onlyAnswers(19, x, "waitingAt(false, " + i + ")", packets[i], () -> x.waitingAt(false, i));
        }
        onlyAnswers(19, x, "waitingAt(true, 0)", 4, () -> x.waitingAt(true, 0));
        onlyAnswers(19, x, "waitingAt(true, 1)", 1, () -> x.waitingAt(true, 1));
        refused(19, x, BOUNDS, "waitingAt(false, 5)", () -> x.waitingAt(false, 5));
        refused(19, x, BOUNDS, "waitingAt(true, 2)", () -> x.waitingAt(true, 2));
        for (int bad : WRONG_INTS) {
            refused(19, x, BOUNDS, "waitingAt(false, " + bad + ")", () -> x.waitingAt(false, bad));
            refused(19, x, BOUNDS, "waitingAt(true, " + bad + ")", () -> x.waitingAt(true, bad));
        }
        due(19, "a request for repair", withMessages().waitingAt(true, 1), NONE);
    }

    private static void promise20() {
        HeaderSqueezer x = new HeaderSqueezer();
        undoable(20, x, 0, "setReceiver(0, 1, 1)", 3, () -> x.setReceiver(0, 1, 1));
        due(20, "setReceiver(15, 16, 8)", x.setReceiver(15, 16, 8), 3);
        due(20, "numberFor(49) by depth 15", x.numberFor(49), -15);
        due(20, "numberFor(48) by depth 15", x.numberFor(48), 48);
        due(20, "setReceiver(0, 1, 1)", x.setReceiver(0, 1, 1), 15);
        due(20, "numberFor(63) by depth 0", x.numberFor(63), 63);
        refused(20, x, ARGUMENT, "setReceiver(16, 1, 1)", () -> x.setReceiver(16, 1, 1));
        refused(20, x, ARGUMENT, "setReceiver(0, 17, 1)", () -> x.setReceiver(0, 17, 1));
        refused(20, x, ARGUMENT, "setReceiver(0, 1, 9)", () -> x.setReceiver(0, 1, 9));
        refused(20, x, ARGUMENT, "setReceiver(0, 0, 1)", () -> x.setReceiver(0, 0, 1));
        refused(20, x, ARGUMENT, "setReceiver(0, 1, 0)", () -> x.setReceiver(0, 1, 0));
        for (int bad : WRONG_INTS) {
            refused(20, x, ARGUMENT, "setReceiver(bad, 1, 1)", () -> x.setReceiver(bad, 1, 1));
            refused(20, x, ARGUMENT, "setReceiver(0, bad, 1)", () -> x.setReceiver(0, bad, 1));
            refused(20, x, ARGUMENT, "setReceiver(0, 1, bad)", () -> x.setReceiver(0, 1, bad));
        }
        x.setPolicy(1, 1);
        x.setReceiver(3, 16, 8);
        x.stream(20);
        x.lose(0);
        for (int i = 0; i < 7; i++) {
            x.deliver(0);
        }
        due(20, "count(6) after 7 by patience 8", x.count(6), 0);
        x.deliver(0);
        due(20, "count(6) after 8 by patience 8", x.count(6), 1);
        x.setPolicy(0, 0);
        x.deliverAll();
        x.stream(16);
        x.deliver(0);
        for (int i = 0; i < 14; i++) {
            x.deliver(0);
        }
        due(20, "the last message after 15 by interval 16", x.waitingAt(true, x.waiting(true) - 1), NONE);
        x.deliver(0);
        due(20, "the last message after 16 by interval 16", x.waitingAt(true, x.waiting(true) - 1), 35);
    }

    private static void promises21To23() {
        HeaderSqueezer x = with(2, 1);
        x.setField(0, 9);
        x.setField(3, 2);
        x.setStrides(4, 8);
        x.stream(5);
        x.deliver(0);
        onlyAnswers(21, x, "highest()", 0, x::highest);
        x.deliver(3);
        due(21, "highest() after an unknown one", x.highest(), 0);
        x.deliver(0);
        due(21, "highest()", x.highest(), 1);
        onlyAnswers(23, x, "records()", 2, x::records);
        dueRecord(x, 0, 9, 4, 8, 2, 4, 8);
        dueRecord(x, 1, 9, 8, 16, 2, 4, 8);
        dueRecord(x, 2, NONE, NONE, NONE, NONE, NONE, NONE);
        dueRecord(x, 64, NONE);
        dueRecord(x, 999, NONE);
        onlyAnswers(22, x, "record(1, 1)", 8, () -> x.record(1, 1));
        refused(22, x, ARGUMENT, "record(1000, 0)", () -> x.record(1000, 0));
        refused(22, x, ARGUMENT, "record(0, 6)", () -> x.record(0, 6));
        for (int bad : WRONG_INTS) {
            refused(22, x, ARGUMENT, "record(" + bad + ", 0)", () -> x.record(bad, 0));
            refused(22, x, ARGUMENT, "record(0, " + bad + ")", () -> x.record(0, bad));
        }
        HeaderSqueezer y = new HeaderSqueezer();
        for (int i = 0; i < 4; i++) {
            y.stream(16);
            y.deliverAll();
        }
        due(23, "records() at H = 63", y.records(), 64);
        due(22, "record(0, 1) at H = 63", y.record(0, 1), 1);
        y.stream(2);
        y.deliver(1);
        due(21, "highest()", y.highest(), 65);
        due(23, "records() at H = 65 without 64", y.records(), 63);
        due(22, "record(1, 1) at H = 65", y.record(1, 1), NONE);
        due(22, "record(2, 1) at H = 65", y.record(2, 1), 3);
        due(22, "record(64, 1) at H = 65", y.record(64, 1), NONE);
        y.deliver(0);
        due(21, "highest() after a lower one", y.highest(), 65);
        due(23, "records() at H = 65", y.records(), 64);
    }

    private static void promise24() {
        HeaderSqueezer x = new HeaderSqueezer();
        for (int told = 0; told < 64; told++) {
            due(24, "numberFor(" + told + ")", x.numberFor(told), told > 60 ? told - 64 : told);
        }
        for (int i = 0; i < 5; i++) {
            x.stream(20);
            x.deliverAll();
        }
        onlyAnswers(24, x, "numberFor(33) at H = 99", 97, () -> x.numberFor(33));
        onlyAnswers(24, x, "numberFor(32) at H = 99", 160, () -> x.numberFor(32));
        onlyAnswers(24, x, "numberFor(35) at H = 99", 99, () -> x.numberFor(35));
        x.setReceiver(0, 1, 1);
        due(24, "numberFor(35) by depth 0", x.numberFor(35), 163);
        due(24, "numberFor(36) by depth 0", x.numberFor(36), 100);
        x.setReceiver(1, 1, 1);
        due(24, "numberFor(35) by depth 1", x.numberFor(35), 99);
        refused(24, x, ARGUMENT, "numberFor(64)", () -> x.numberFor(64));
        for (int bad : WRONG_INTS) {
            refused(24, x, ARGUMENT, "numberFor(" + bad + ")", () -> x.numberFor(bad));
        }
    }

    private static void promises25And26() {
        HeaderSqueezer x = with(2, 1);
        onlyAnswers(26, x, "saved() of none", 0, x::saved);
        x.send();
        onlyAnswers(26, x, "saved() of a full one", -6, x::saved);
        x.stream(5);
        onlyAnswers(26, x, "saved()", 9, x::saved);
        x.copy(0);
        due(26, "saved() after a copy", x.saved(), 9);
        x.deliver(0);
        x.lose(0);
        x.deliverAll();
        dueCounts(x, 6, 1, 1, 0, 4, 1, 2, 1);
        onlyAnswers(25, x, "count(4)", 4, () -> x.count(4));
        x.undo();
        dueCounts(x, 6, 1, 1, 0, 0, 0, 0, 1);
        refused(25, x, ARGUMENT, "count(8)", () -> x.count(8));
        for (int bad : WRONG_INTS) {
            refused(25, x, ARGUMENT, "count(" + bad + ")", () -> x.count(bad));
        }
    }

    private static void promise27() {
        HeaderSqueezer x = with(1, 1);
        x.stream(6);
        x.copy(0);
        x.copy(1);
        x.deliver(0);
        x.deliver(0);
        due(27, "lateness() of packets in order", x.lateness(), 0);
        x.deliver(0);
        x.deliver(0);
        due(27, "a copy of packet 0", x.deliver(2), 3);
        onlyAnswers(27, x, "lateness() of a repetition", 3, x::lateness);
        x.deliver(2);
        due(27, "lateness() keeps the greatest", x.lateness(), 3);
        x.undo();
        x.undo();
        due(27, "lateness() after undo()", x.lateness(), 0);
        latenessOfUnknown();
    }

    private static void latenessOfUnknown() {
        HeaderSqueezer x = with(1, 1);
        x.stream(3);
        x.setPolicy(0, 0);
        x.stream(7);
        due(27, "a full packet", x.deliver(9), 0);
        due(27, "lateness() of the first", x.lateness(), 0);
        due(27, "an unknown packet", x.deliver(1), 2);
        due(27, "lateness() of an unknown packet", x.lateness(), 8);
        due(27, "a decoded packet", x.deliver(0), 0);
        due(27, "lateness() of a decoded packet", x.lateness(), 9);
    }

    private static void promise28() {
        HeaderSqueezer x = with(1, 1);
        dueMean("meanSize() of none", x.meanSize(), 0.0);
        x.send();
        dueMean("meanSize() of one", x.meanSize(), 12.0);
        x.send();
        dueMean("meanSize() of two", x.meanSize(), 7.5);
        x.send();
        long before = x.digest();
        dueMean("meanSize() of three", x.meanSize(), 6.0);
        due(28, "digest() after meanSize()", x.digest(), before);
        x.advance();
        x.send();
        x.send();
        x.send();
        x.send();
        dueMean("meanSize() of seven", x.meanSize(), 33.0 / 7.0);
        x.undo();
        dueMean("meanSize() after undo()", x.meanSize(), 5.0);
    }

    private static void promises29And30() {
        HeaderSqueezer x = new HeaderSqueezer();
        due(29, "append(0)", x.append(0), 1);
        due(29, "append(127)", x.append(127), 2);
        refused(29, x, ARGUMENT, "append(128)", () -> x.append(128));
        for (int bad : WRONG_INTS) {
            refused(29, x, ARGUMENT, "append(" + bad + ")", () -> x.append(bad));
        }
        for (int length = 3; length <= 100; length++) {
            due(29, "append()", x.append('n'), length);
        }
        refused(29, x, STATE, "append(1) to a full text", () -> x.append(1));
        refused(29, x, ARGUMENT, "append(128) to a full text", () -> x.append(128));
        refused(29, x, STATE, "undo(): append() saves no state", x::undo);
        due(30, "clearText()", x.clearText(), 100);
        due(30, "clearText()", x.clearText(), 0);
        refused(30, x, STATE, "undo(): clearText() saves no state", x::undo);
        due(29, "append('n')", x.append('n'), 1);
        x.advance();
        x.append(';');
        x.undo();
        due(31, "carryOut(): undo() leaves the text", x.carryOut(), 1);
        x.advance();
        x.clearText();
        x.undo();
        due(30, "clearText(): undo() leaves the text empty", x.clearText(), 0);
    }

    private static void promise31() {
        HeaderSqueezer x = new HeaderSqueezer();
        undoable(31, x, 0, "carryOut() of no orders", 0, x::carryOut);
        x.stream(3);
        write(x, "n;s;d0;l0;c00;a0;s;d1;x0;");
        undoable(31, x, 1, "carryOut()", 9, x::carryOut);
        due(31, "carryOut()", x.carryOut(), 9);
        dueLink(x, false, 2, 2, 4);
        dueLink(x, true);
        due(31, "sent(0, 7)", x.sent(0, 7), 1);
        due(31, "sent(3, 7), its acknowledgment was lost", x.sent(3, 7), 0);
        due(31, "field(1)", x.field(1), 4);
        dueCounts(x, 5, 2, 2, 0, 0, 0, 0, 5);
        due(31, "undo()", x.undo(), 1);
        due(31, "undo()", x.undo(), 0);
        syntaxErrors();
        ordersThatThrow();
        longScripts();
    }

    private static void syntaxErrors() {
        String[] texts = {"s", "n", "d", "d1", "d12", "s1;", "n0;", "d;", "d123;", "d12", "q;", ";",
            "s;;", "s;q", "s; n;", " s;", "S;", "d-1;", "d1", "a0;x", "sn;", "dd1;", "d1d;", "d0;l1;c2;a3;x4",
            "x4;5", "s;d0;n;1", "d1:", "d/;", "d1/;"};
        int[] positions = {1, 1, 1, 2, 3, 1, 1, 1, 3, 3, 0, 0,
            2, 2, 2, 0, 0, 1, 2, 4, 1, 1, 2, 14,
            3, 7, 2, 1, 2};
        HeaderSqueezer x = new HeaderSqueezer();
        for (int i = 0; i < texts.length; i++) {
            write(x, texts[i]);
            onlyAnswers(31, x, "carryOut() of " + texts[i], -10 - positions[i], x::carryOut);
            if (i % 10 == 9) {
                x = new HeaderSqueezer();
            }
        }
        HeaderSqueezer y = new HeaderSqueezer();
        for (int sign = 0; sign < 128; sign++) {
            y.clearText();
            y.append(sign);
            boolean letter = "nsdlcax".indexOf(sign) >= 0;
            due(31, "carryOut() of the byte " + sign, y.carryOut(), letter ? -11 : -10);
        }
    }

    private static void ordersThatThrow() {
        HeaderSqueezer x = new HeaderSqueezer();
        String[] texts = {"d0;", "l0;", "c0;", "a0;", "x0;", "s;d1;", "s;l1;", "s;c1;", "s;a0;", "s;x0;",
            "s;d0;a0;n;a0;", "s;d0;d0;", "s;c99;", "n;n;s;d0;x0;x0;"};
        int[] indexes = {0, 0, 0, 0, 0, 1, 1, 1, 1, 1, 4, 2, 1, 5};
        for (int i = 0; i < texts.length; i++) {
            write(x, texts[i]);
            onlyAnswers(31, x, "carryOut() of " + texts[i], -1000 - indexes[i], x::carryOut);
        }
        write(x, "d9;q");
        onlyAnswers(31, x, "carryOut() of a syntax error behind a wrong order", -13, x::carryOut);
        HeaderSqueezer y = new HeaderSqueezer();
        y.stream(19);
        write(y, "d18;s;s;s;");
        onlyAnswers(31, y, "carryOut() of one packet too many", -1003, y::carryOut);
        write(y, "c00;c0;");
        onlyAnswers(31, y, "carryOut() of one copy too many", -1001, y::carryOut);
        due(31, "carryOut()", run(y, "c0;d19;d18;l17;"), 4);
        due(31, "count(5)", y.count(5), 0);
        due(31, "lateness()", y.lateness(), 0);
        due(31, "waiting(false)", y.waiting(false), 17);
    }

    private static void longScripts() {
        HeaderSqueezer x = new HeaderSqueezer();
        StringBuilder fifty = new StringBuilder();
        for (int i = 0; i < 50; i++) {
            fifty.append("n;");
        }
        due(31, "carryOut() of 50 orders", run(x, fifty.toString()), 50);
        due(31, "field(1)", x.field(1), 50);
        due(31, "carryOut() of 50 orders again", x.carryOut(), 50);
        due(31, "field(1)", x.field(1), 100);
        write(x, fifty.substring(0, 98) + "d1");
        due(31, "carryOut() of a full text that ends too early", x.carryOut(), -110);
        due(32, "undo()", x.undo(), 1);
        due(32, "field(1) after undo()", x.field(1), 50);
    }

    private static void promise32() {
        HeaderSqueezer x = new HeaderSqueezer();
        refused(32, x, STATE, "undo() of nothing", x::undo);
        for (int value = 1; value <= 6; value++) {
            x.setField(0, value);
        }
        for (int remaining = 3; remaining >= 0; remaining--) {
            due(32, "undo()", x.undo(), remaining);
            due(32, "field(0)", x.field(0), remaining + 2);
        }
        refused(32, x, STATE, "undo() of the fifth", x::undo);
        x.advance();
        x.setField(0, 9);
        due(32, "undo()", x.undo(), 1);
        x.setField(0, 8);
        x.setField(0, 7);
        due(32, "undo() after a new way", x.undo(), 2);
        due(32, "field(0)", x.field(0), 8);
        due(32, "undo()", x.undo(), 1);
        due(32, "undo()", x.undo(), 0);
        due(32, "field(1)", x.field(1), 0);
        undoOfPackets();
        undoOfRecords();
        undoOfAcknowledgedPackets();
        undoOfReceiver();
        undoAfterFailedScripts();
        write(x, "q");
        x.advance();
        x.clearText();
        x.undo();
        due(32, "carryOut(): undo() leaves the text as it is", x.carryOut(), 0);
    }

    /** Packets that are sent anew after an undo must not bring back what was undone. */
    private static void undoOfPackets() {
        HeaderSqueezer x = with(1, 1);
        x.setField(0, 1);
        x.send();
        x.send();
        x.deliver(1);
        x.deliver(0);
        x.deliverBack(0);
        due(32, "sent(0, 7)", x.sent(0, 7), 1);
        x.undo();
        due(32, "sent(0, 7) after undo()", x.sent(0, 7), 0);
        x.undo();
        x.undo();
        x.undo();
        dueLink(x, false, 0);
        x.setField(0, 2);
        x.send();
        dueHeader(x, 1, 2, 0, 0, 0, 4, 1, 0, 0);
        dueHeader(x, 0, 1, 0, 0, 0, 12, 0, NONE, 0);
        due(32, "deliverAll()", x.deliverAll(), 2);
        due(32, "count(2)", x.count(2), 2);
        due(32, "record(1, 0)", x.record(1, 0), 2);
    }

    /** A number that was acknowledged before an undo is not when it is sent anew. */
    private static void undoOfAcknowledgedPackets() {
        HeaderSqueezer x = with(1, 0);
        x.send();
        x.deliver(0);
        x.deliverBack(0);
        due(32, "sent(0, 7)", x.sent(0, 7), 1);
        x.undo();
        x.undo();
        x.undo();
        due(32, "count(0)", x.count(0), 0);
        x.send();
        due(32, "sent(0, 7) of the packet sent anew", x.sent(0, 7), 0);
        due(32, "reference()", x.reference(), NONE);
        HeaderSqueezer y = with(1, 0);
        due(32, "carryOut()", run(y, "s;d0;a0;"), 3);
        due(32, "sent(0, 7)", y.sent(0, 7), 1);
        y.undo();
        y.send();
        due(32, "sent(0, 7) of the packet sent anew", y.sent(0, 7), 0);
        y.undo();
        due(31, "carryOut() that fails behind the acknowledgment", run(y, "s;d0;a0;a0;"), -1003);
        y.send();
        due(31, "sent(0, 7) of the packet sent anew", y.sent(0, 7), 0);
    }

    /** A script that fails leaves the saved states alone, when there are four of them too. */
    private static void undoAfterFailedScripts() {
        HeaderSqueezer x = new HeaderSqueezer();
        for (int value = 1; value <= 6; value++) {
            x.setField(0, value);
            due(31, "carryOut() of d0;", run(x, "n;s;d1;"), -1002);
        }
        for (int value = 5; value >= 2; value--) {
            due(32, "undo() after scripts that failed", x.undo(), value - 2);
            due(32, "field(0)", x.field(0), value);
        }
    }

    private static void undoOfReceiver() {
        HeaderSqueezer x = with(0, 0);
        x.stream(3);
        x.setReceiver(0, 3, 1);
        x.undo();
        due(32, "setReceiver(3, 2, 2) after undo()", x.setReceiver(3, 2, 2), 3);
        x.undo();
        x.deliverAll();
        dueLink(x, true, 0, 1, 2);
        x.setPolicy(1, 1);
        x.stream(2);
        x.lose(0);
        x.deliver(0);
        due(32, "count(6), by the patience before", x.count(6), 0);
    }

    private static void undoOfRecords() {
        HeaderSqueezer x = new HeaderSqueezer();
        for (int i = 0; i < 4; i++) {
            x.stream(16);
            x.deliverAll();
        }
        x.setPolicy(1, 1);
        x.stream(1);
        x.deliver(0);
        due(32, "record(0, 1) at H = 64", x.record(0, 1), NONE);
        due(32, "undo()", x.undo(), 3);
        due(32, "record(0, 1) after undo()", x.record(0, 1), 1);
        due(32, "records()", x.records(), 64);
        due(32, "highest()", x.highest(), 63);
        due(32, "record(64, 1)", x.record(64, 1), NONE);
    }

    private static void promise33() {
        HeaderSqueezer x = new HeaderSqueezer();
        due(33, "digest() of a new object", x.digest(), hash(3061, 0, 0, 0, 0, 0, 1, 160, 0, 0, 0,
                0, 0, 3, 1, 2, -1, 0, 0, 0, 0, 0, 0, 0, 0, 0, 0, 0, 0, 0));
        x.append('s');
        due(33, "digest() with a text", x.digest(),
                digestBy(x, new int[] {1, 1, 160, 0, 0, 0}, new int[] {3, 1, 2}, 0, 0));
        x.setField(0, 9);
        x.setField(3, 5);
        x.setStrides(4, 70);
        x.setPolicy(2, 3);
        x.setReceiver(5, 2, 3);
        x.stream(8);
        x.deliver(7);
        x.deliver(6);
        x.deliver(5);
        due(33, "waitingAt(true, 0)", x.waitingAt(true, 0), NONE);
        x.deliverBack(0);
        x.deliver(4);
        x.deliver(2);
        x.deliver(0);
        due(33, "digest() with a repair due", x.digest(),
                digestBy(x, new int[] {1, 4, 70, 2, 3, 1}, new int[] {5, 2, 3}, 0, 4));
        long before = x.digest();
        x.deliver(1);
        x.undo();
        due(33, "digest() after undo(), with one saved state less", x.digest(), before - 1);
        x.stream(4);
        x.deliver(x.waiting(false) - 2);
        due(33, "digest() with an unknown one", x.digest(),
                digestBy(x, new int[] {1, 4, 70, 2, 3, 0}, new int[] {5, 2, 3}, 1, 4));
        digestOfWindow();
    }

    /** With H = 69 the digest takes the records 6 to 69 alone. */
    private static void digestOfWindow() {
        HeaderSqueezer x = new HeaderSqueezer();
        x.setStrides(0, 7);
        for (int i = 0; i < 7; i++) {
            x.stream(10);
            x.lose(8);
            x.deliverAll();
        }
        long h = hash(3061, 0, 0, 0, 490, 0, 0, 7, 0, 0, 0);
        for (int packet = 0; packet < 70; packet++) {
            h = hash(h, 0, 0, 7 * packet + 7, 0, 12, 0, NONE, 0);
        }
        h = hash(h, 0, 20);
        for (int index = 0; index < 20; index++) {
            h = hash(h, index + (index + 1) / 9);
        }
        h = hash(h, 3, 1, 2, 69, 0, 57);
        for (int number = 6; number < 70; number++) {
            if (number % 10 == 8) {
                h = hash(h, NONE, NONE, NONE, NONE, NONE, NONE);
            } else {
                h = hash(h, 0, 0, 7 * number + 7, 0, 0, 7);
            }
        }
        h = hash(h, 70, 63, 63, 0, 0, 0, 0, 70);
        due(33, "digest() of a full window", x.digest(), hash(h, -420, 0, 4));
    }

    private static void due31ThroughMethods() {
        String text = "n;s;s;c1;d0;a0;s;x0;";
        HeaderSqueezer x = new HeaderSqueezer();
        int answer = run(x, text);
        due(31, "carryOut() of x0 with an empty return link", answer, -1007);
        HeaderSqueezer byScript = new HeaderSqueezer();
        due(31, "carryOut()", run(byScript, "n;s;s;c1;d0;a0;s;d0;x0;"), 9);
        HeaderSqueezer byCalls = new HeaderSqueezer();
        byCalls.advance();
        byCalls.send();
        byCalls.send();
        byCalls.copy(1);
        byCalls.deliver(0);
        byCalls.deliverBack(0);
        byCalls.send();
        byCalls.deliver(0);
        byCalls.loseBack(0);
        write(byCalls, "n;s;s;c1;d0;a0;s;d0;x0;");
        due(31, "digest() by a script and by calls", byScript.digest() - 1, byCalls.digest() - 4);
    }

    public static void main(String[] args) {
        promise1();
        promise2();
        promise3();
        promise4();
        promise5();
        promise6();
        promise7();
        promise8();
        promise9();
        promise10();
        promise11();
        promise12();
        promise13();
        promise14();
        promise15();
        promise16();
        promise17();
        promises18And19();
        promise20();
        promises21To23();
        promise24();
        promises25And26();
        promise27();
        promise28();
        promises29And30();
        promise31();
        due31ThroughMethods();
        promise32();
        promise33();
        finish();
    }
}
