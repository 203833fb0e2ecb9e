import java.io.IOException;

/** The boundary cases of the promises 1 to 33: ranges, answers at their edges, refused calls. */
public final class PromiseSentences extends Sentences {
    private static final String NO_FIELD = "Throws IndexOutOfBoundsException if there is no such field";
    private static final String NO_INDEX =
            "Throws IndexOutOfBoundsException if the link has no such index";
    private static final String ARGUMENT_RANGE =
            "Throws IllegalArgumentException if an argument is out of range";

    private interface IntCall {
        long answer(int argument);
    }

    private interface CallOf {
        long answer(HeaderSqueezer x, int argument);
    }

    private interface CallOn {
        long answer(HeaderSqueezer x);
    }

    /** Every argument below and above the range is refused, and those at its ends are not. */
    private static void dueRange(HeaderSqueezer x, Class<?> want, String name, int least, int most,
            IntCall call) {
        int[] beside = {least - 1, most + 1, Integer.MIN_VALUE, Integer.MAX_VALUE, least - 64, most + 64,
            least + 65536, most + 65536, most + (1 << 24)};
        for (int argument : beside) {
            refused(x, want, name + " with " + argument, () -> call.answer(argument));
        }
        accepted(name + " with " + least, () -> call.answer(least));
        accepted(name + " with " + most, () -> call.answer(most));
    }

    /** The argument that these words describe has this range, in a state with packets and records. */
    private static void range(int number, String words, Class<?> want, int least, int most, CallOf call) {
        promise(number, words, () -> {
            HeaderSqueezer x = withFirstAcknowledged(1);
            x.stream(2);
            dueRange(x, want, "the call", least, most, argument -> call.answer(x, argument));
        });
    }

    /** The promise names its method undoable: it saves one state, and undo brings that back. */
    private static void undoableCall(int number, long want, CallOn call) {
        promise(number, "Undoable", () -> {
            HeaderSqueezer x = withFirstAcknowledged(1);
            x.stream(2);
            x.deliver(0);
            undoable(x, 4, "the call with four saved states", want, () -> call.answer(x));
            undoable(x, 3, "the call with three saved states", want, () -> call.answer(x));
        });
    }

    // ---- 1 to 5

    private static void emptyAtFirst() {
        HeaderSqueezer x = new HeaderSqueezer();
        due("count(0)", x.count(0), 0);
        refused(x, BOUNDS, "sent(0, 0)", () -> x.sent(0, 0));
        dueLink(x, false);
        dueLink(x, true);
        refused(x, BOUNDS, "waitingAt(false, 0)", () -> x.waitingAt(false, 0));
        refused(x, BOUNDS, "waitingAt(true, 0)", () -> x.waitingAt(true, 0));
        refused(x, STATE, "undo()", x::undo);
        due("clearText()", x.clearText(), 0);
        due("digest()", x.digest(),
                digestBy(x, new int[] {0, 1, 160, 0, 0, 0}, new int[] {3, 1, 2}, 0, 0));
    }

    private static void objectsShareNothing() {
        HeaderSqueezer x = withRepairRequested();
        long before = x.digest();
        HeaderSqueezer y = withFirstAcknowledged(2);
        y.stream(9);
        y.deliverAll();
        y.undo();
        due("digest() after calls of another object", x.digest(), before);
        due("digest() of a third one", new HeaderSqueezer().digest(), new HeaderSqueezer().digest());
    }

    private static final int[] MOST_OF_FIELDS = {255, 65535, 65535, 15};

    private static void setFieldRanges() {
        for (int field = 0; field < 4; field++) {
            int f = field;
            HeaderSqueezer x = new HeaderSqueezer();
            dueRange(x, ARGUMENT, "setField of field " + f, 0, MOST_OF_FIELDS[f], v -> x.setField(f, v));
            due("field(" + f + ")", x.field(f), MOST_OF_FIELDS[f]);
        }
    }

    private static void setFieldRefused() {
        HeaderSqueezer x = new HeaderSqueezer();
        for (int field = 0; field < 4; field++) {
            int f = field;
            int beyond = MOST_OF_FIELDS[f] + 1;
            refused(x, ARGUMENT, "setField(" + f + ", " + beyond + ")", () -> x.setField(f, beyond));
            for (int bad : WRONG_INTS) {
                refused(x, ARGUMENT, "setField(" + f + ", " + bad + ")", () -> x.setField(f, bad));
            }
        }
    }

    private static void refusedFields(CallOf call) {
        HeaderSqueezer x = new HeaderSqueezer();
        refused(x, BOUNDS, "the call with the field 4", () -> call.answer(x, 4));
        for (int bad : WRONG_INTS) {
            refused(x, BOUNDS, "the call with the field " + bad, () -> call.answer(x, bad));
        }
    }

    private static void setFieldAnswersThePrevious() {
        for (int field = 0; field < 4; field++) {
            HeaderSqueezer x = new HeaderSqueezer();
            due("setField() the first time", x.setField(field, MOST_OF_FIELDS[field]), 0);
            due("setField() to the same", x.setField(field, MOST_OF_FIELDS[field]), MOST_OF_FIELDS[field]);
            due("setField() to 0", x.setField(field, 0), MOST_OF_FIELDS[field]);
            due("setField() from 0", x.setField(field, 1), 0);
            for (int other = 0; other < 4; other++) {
                due("field(" + other + ")", x.field(other), other == field ? 1 : 0);
            }
        }
    }

    private static void setStridesRefused() {
        HeaderSqueezer x = new HeaderSqueezer();
        for (int bad : WRONG_INTS) {
            refused(x, ARGUMENT, "setStrides(" + bad + ", 0)", () -> x.setStrides(bad, 0));
            refused(x, ARGUMENT, "setStrides(0, " + bad + ")", () -> x.setStrides(0, bad));
            refused(x, ARGUMENT, "setStrides(" + bad + ", 4096)", () -> x.setStrides(bad, 4096));
        }
        refused(x, ARGUMENT, "setStrides(256, 4095)", () -> x.setStrides(256, 4095));
        refused(x, ARGUMENT, "setStrides(255, 4096)", () -> x.setStrides(255, 4096));
        due("setStrides(255, 4095)", x.setStrides(255, 4095), 160);
    }

    private static void setStridesAnswersTheTimeStride() {
        HeaderSqueezer x = new HeaderSqueezer();
        due("setStrides(7, 0)", x.setStrides(7, 0), 160);
        due("setStrides(8, 4095)", x.setStrides(8, 4095), 0);
        due("setStrides(0, 4095)", x.setStrides(0, 4095), 4095);
        due("advance()", x.advance(), 0);
        due("field(2)", x.field(2), 4095);
    }

    private static void setPolicyRefused() {
        HeaderSqueezer x = new HeaderSqueezer();
        for (int bad : WRONG_INTS) {
            refused(x, ARGUMENT, "setPolicy(" + bad + ", 0)", () -> x.setPolicy(bad, 0));
            refused(x, ARGUMENT, "setPolicy(0, " + bad + ")", () -> x.setPolicy(0, bad));
            refused(x, ARGUMENT, "setPolicy(" + bad + ", 16)", () -> x.setPolicy(bad, 16));
        }
        refused(x, ARGUMENT, "setPolicy(3, 15)", () -> x.setPolicy(3, 15));
        refused(x, ARGUMENT, "setPolicy(2, 16)", () -> x.setPolicy(2, 16));
        due("setPolicy(2, 15)", x.setPolicy(2, 15), 0);
    }

    private static void setPolicyAnswersThePrevious() {
        HeaderSqueezer x = new HeaderSqueezer();
        due("setPolicy(2, 15)", x.setPolicy(2, 15), 0);
        due("setPolicy(1, 14)", x.setPolicy(1, 14), 2);
        due("setPolicy(1, 0)", x.setPolicy(1, 0), 1);
        due("setPolicy(0, 1)", x.setPolicy(0, 1), 1);
        due("setPolicy(0, 1)", x.setPolicy(0, 1), 0);
        x.send();
        due("reference() by the confidence 1", x.reference(), 0);
    }

    private static void advanceAnswersTheSequenceAfterwards() {
        HeaderSqueezer x = new HeaderSqueezer();
        due("advance() from 0", x.advance(), 1);
        x.setField(1, 65535);
        due("advance() over the end", x.advance(), 0);
        x.setStrides(0, 1);
        due("advance() by 0", x.advance(), 0);
        due("waiting(false): it sends nothing", x.waiting(false), 0);
    }

    // ---- 6 to 11

    private static void sendAnswersTheNumber() {
        HeaderSqueezer x = new HeaderSqueezer();
        for (int number = 0; number < 70; number++) {
            due("send()", x.send(), number);
            x.deliver(0);
        }
        due("sequence, send() does not advance", x.field(1), 0);
    }

    private static void sendRefused() {
        HeaderSqueezer x = new HeaderSqueezer();
        x.stream(20);
        refused(x, STATE, "send() into 20", x::send);
        x.lose(0);
        due("send() into 19", x.send(), 20);
        refused(x, STATE, "send() into 20 again", x::send);
        HeaderSqueezer y = new HeaderSqueezer();
        streamAndDeliver(y, 499);
        due("send() with 499 sent", y.send(), 499);
        refused(y, STATE, "send() with 500 sent", y::send);
        y.deliver(0);
        refused(y, STATE, "send() with 500 sent and an empty link", y::send);
        y.undo();
        y.undo();
        due("send() after undo()", y.send(), 499);
    }

    private static void streamTimes() {
        HeaderSqueezer x = new HeaderSqueezer();
        for (int times = 1; times <= 20; times++) {
            due("stream(" + times + ")", x.stream(times), times);
            due("field(1)", x.field(1), times);
            x.undo();
        }
        refused(x, ARGUMENT, "stream(0)", () -> x.stream(0));
        refused(x, ARGUMENT, "stream(21)", () -> x.stream(21));
    }

    private static void streamTimesRefused() {
        HeaderSqueezer x = new HeaderSqueezer();
        for (int bad : WRONG_INTS) {
            refused(x, ARGUMENT, "stream(" + bad + ")", () -> x.stream(bad));
        }
        x.stream(20);
        refused(x, ARGUMENT, "stream(0) with a full link", () -> x.stream(0));
        refused(x, ARGUMENT, "stream(21) with a full link", () -> x.stream(21));
    }

    private static void streamAnswersWhatWaits() {
        HeaderSqueezer x = new HeaderSqueezer();
        due("stream(2) into none", x.stream(2), 2);
        due("stream(17) into 2", x.stream(17), 19);
        due("stream(1) into 19", x.stream(1), 20);
        x.deliver(0);
        due("stream(1) into 19 again", x.stream(1), 20);
        x.deliverAll();
        due("stream(20) into none", x.stream(20), 20);
    }

    private static void streamAdvancesFirst() {
        HeaderSqueezer x = with(2, 1);
        x.setField(1, 65534);
        due("stream(3)", x.stream(3), 3);
        dueHeader(x, 0, 0, 65535, 160, 0, 12, 0, NONE);
        dueHeader(x, 1, 0, 0, 320, 0, 3, 2, 0);
        dueHeader(x, 2, 0, 1, 480, 0, 3, 2, 1);
        due("field(1)", x.field(1), 1);
        x.stream(2);
        due("undo() takes back the whole stream", x.undo(), 3);
        due("count(0)", x.count(0), 3);
        due("field(1)", x.field(1), 1);
    }

    private static void streamOfMoreThanThereIsRoomFor() {
        HeaderSqueezer x = new HeaderSqueezer();
        x.stream(15);
        refused(x, STATE, "stream(6) into 15", () -> x.stream(6));
        refused(x, STATE, "stream(20) into 15", () -> x.stream(20));
        due("stream(5) into 15", x.stream(5), 20);
        refused(x, STATE, "stream(1) into 20", () -> x.stream(1));
        HeaderSqueezer y = new HeaderSqueezer();
        streamAndDeliver(y, 490);
        refused(y, STATE, "stream(11) with 490 sent", () -> y.stream(11));
        refused(y, STATE, "stream(20) with 490 sent", () -> y.stream(20));
        due("stream(10) with 490 sent", y.stream(10), 10);
        refused(y, STATE, "stream(1) with 500 sent", () -> y.stream(1));
    }

    private static void fieldAnswersItsValue() {
        HeaderSqueezer x = new HeaderSqueezer();
        setHeader(x, 255, 65535, 65534, 15);
        onlyAnswers(x, "field(0)", 255, () -> x.field(0));
        onlyAnswers(x, "field(1)", 65535, () -> x.field(1));
        onlyAnswers(x, "field(2)", 65534, () -> x.field(2));
        onlyAnswers(x, "field(3)", 15, () -> x.field(3));
    }

    /** For every policy and confidence: the size that is told is that of the packet sent so. */
    private static void dueSizes(HeaderSqueezer x) {
        for (int policy = 0; policy < 3; policy++) {
            for (int confidence : new int[] {0, 1, 2, 8, 14, 15}) {
                int told = x.sizeWith(policy, confidence);
                x.setPolicy(policy, confidence);
                int packet = x.send();
                due("sizeWith(" + policy + ", " + confidence + ")", told, x.sent(packet, 4));
                x.undo();
                x.undo();
            }
        }
    }

    private static void sizesAsIfSent() {
        dueSizes(new HeaderSqueezer());
        HeaderSqueezer x = withFirstAcknowledged(1);
        x.stream(14);
        x.setField(0, 7);
        dueSizes(x);
        x.stream(1);
        x.setField(3, 7);
        dueSizes(x);
        HeaderSqueezer y = withRepairRequested();
        y.advance();
        dueSizes(y);
        y.deliverBack(0);
        dueSizes(y);
    }

    private static void sizeWithRefused() {
        HeaderSqueezer x = new HeaderSqueezer();
        for (int bad : WRONG_INTS) {
            refused(x, ARGUMENT, "sizeWith(" + bad + ", 0)", () -> x.sizeWith(bad, 0));
            refused(x, ARGUMENT, "sizeWith(0, " + bad + ")", () -> x.sizeWith(0, bad));
        }
        refused(x, ARGUMENT, "sizeWith(3, 15)", () -> x.sizeWith(3, 15));
        refused(x, ARGUMENT, "sizeWith(2, 16)", () -> x.sizeWith(2, 16));
    }

    private static void sizesWhenNoneCanBeSent() {
        HeaderSqueezer x = new HeaderSqueezer();
        x.stream(20);
        onlyAnswers(x, "sizeWith(1, 1) with a full link", 3, () -> x.sizeWith(1, 1));
        onlyAnswers(x, "sizeWith(2, 15) with a full link", 3 + 1 + 2, () -> x.sizeWith(2, 15));
        onlyAnswers(x, "sizeWith(0, 15) with a full link", 12, () -> x.sizeWith(0, 15));
        onlyAnswers(x, "sizeWith(1, 0) with a full link", 12, () -> x.sizeWith(1, 0));
    }

    private static void noReference() {
        HeaderSqueezer x = with(1, 2);
        onlyAnswers(x, "reference() of none sent", NONE, x::reference);
        x.send();
        onlyAnswers(x, "reference() of one too new", NONE, x::reference);
        x.send();
        onlyAnswers(x, "reference() of the first number", 0, x::reference);
        HeaderSqueezer y = withFirstAcknowledged(0);
        y.stream(14);
        onlyAnswers(y, "reference() at the distance 15 under the policy full", 0, y::reference);
        y.stream(1);
        onlyAnswers(y, "reference() at the distance 16", NONE, y::reference);
        HeaderSqueezer z = withRepairRequested();
        z.deliverBack(0);
        onlyAnswers(z, "reference() with a repair due", 1, z::reference);
    }

    private static void sentOfNone() {
        HeaderSqueezer x = new HeaderSqueezer();
        refused(x, BOUNDS, "sent(0, 0) of none", () -> x.sent(0, 0));
        x.stream(3);
        refused(x, BOUNDS, "sent(3, 0) of three", () -> x.sent(3, 0));
        due("sent(2, 1) of three", x.sent(2, 1), 3);
        x.undo();
        refused(x, BOUNDS, "sent(0, 0) after undo()", () -> x.sent(0, 0));
        for (int bad : WRONG_INTS) {
            refused(x, BOUNDS, "sent(" + bad + ", 0)", () -> x.sent(bad, 0));
        }
    }

    private static void sentOfNoSuchWhat() {
        HeaderSqueezer x = new HeaderSqueezer();
        x.send();
        refused(x, ARGUMENT, "sent(0, 8)", () -> x.sent(0, 8));
        for (int bad : WRONG_INTS) {
            refused(x, ARGUMENT, "sent(0, " + bad + ")", () -> x.sent(0, bad));
        }
    }

    private static void sentWhat() {
        HeaderSqueezer y = with(1, 1);
        setHeader(y, 255, 65535, 65534, 15);
        y.send();
        setHeader(y, 254, 65533, 65532, 14);
        y.send();
        y.setPolicy(2, 2);
        y.send();
        y.deliver(1);
        y.deliver(0);
        y.deliverBack(0);
        dueHeader(y, 0, 255, 65535, 65534, 15, 12, 0, NONE, 1);
        dueHeader(y, 1, 254, 65533, 65532, 14, 7, 1, 0, 0);
        dueHeader(y, 2, 254, 65533, 65532, 14, 3 + 1 + 1 + 2 + 1, 2, 0, 0);
    }

    private static void sentIsAcknowledged() {
        HeaderSqueezer x = new HeaderSqueezer();
        x.stream(3);
        x.deliverAll();
        due("sent(2, 7) with its acknowledgment under way", x.sent(2, 7), 0);
        x.loseBack(1);
        x.deliverBack(1);
        x.deliverBack(0);
        due("sent(0, 7)", x.sent(0, 7), 1);
        due("sent(1, 7), its acknowledgment was lost", x.sent(1, 7), 0);
        due("sent(2, 7)", x.sent(2, 7), 1);
    }

    private static void referenceByThePresentConfidence() {
        HeaderSqueezer x = with(1, 3);
        x.stream(10);
        due("reference() by 3", x.reference(), 7);
        x.setPolicy(1, 10);
        due("reference() by 10", x.reference(), 0);
        x.setPolicy(1, 11);
        due("reference() by 11", x.reference(), NONE);
        x.sizeWith(1, 1);
        due("reference() after sizeWith(1, 1)", x.reference(), NONE);
        x.setPolicy(1, 0);
        due("reference() by 0", x.reference(), NONE);
    }

    private static void noReferenceOfFullPackets() {
        HeaderSqueezer x = withFirstAcknowledged(0);
        x.send();
        due("sent(1, 6) by the policy full, in spite of a reference", x.sent(1, 6), NONE);
        HeaderSqueezer y = withRepairRequested();
        y.deliverBack(0);
        y.send();
        due("sent(2, 6) of a repair, in spite of a reference", y.sent(2, 6), NONE);
        y.send();
        due("sent(3, 6) of a delta", y.sent(3, 6), 2);
    }

    // ---- 12 to 19

    private static void deliverIndexes() {
        HeaderSqueezer x = new HeaderSqueezer();
        refused(x, BOUNDS, "deliver(0) of an empty link", () -> x.deliver(0));
        x.stream(3);
        refused(x, BOUNDS, "deliver(3) of three", () -> x.deliver(3));
        due("deliver(2) of three", x.deliver(2), 0);
        refused(x, BOUNDS, "deliver(2) of two", () -> x.deliver(2));
        for (int bad : WRONG_INTS) {
            refused(x, BOUNDS, "deliver(" + bad + ")", () -> x.deliver(bad));
        }
        x.deliver(0);
        x.deliver(0);
        refused(x, BOUNDS, "deliver(0), all are delivered", () -> x.deliver(0));
    }

    private static void deliverAnswers() {
        HeaderSqueezer x = withPacketHeldBack(1);
        x.copy(0);
        x.setPolicy(1, 1);
        x.stream(2);
        x.lose(2);
        due("deliver(2) of packet 66", x.deliver(2), 2);
        due("deliver(0) of packet 1, taken for 65", x.deliver(0), 1);
        due("deliver(0) of its copy", x.deliver(0), 3);
        x.setPolicy(0, 0);
        x.send();
        due("deliver(0) of packet 67", x.deliver(0), 0);
        dueCounts(x, 68, 3, 2, 1, 1, 1, 0);
    }

    private static void deliverAllFromTheFirstOn() {
        HeaderSqueezer x = with(1, 1);
        x.stream(2);
        x.copy(0);
        x.lose(0);
        due("deliverAll(), the delta stands before its reference", x.deliverAll(), 1);
        dueCounts(x, 2, 1, 1, 0, 1, 0);
        dueLink(x, false);
        dueLink(x, true, 0);
    }

    private static void deliverAllAnswersTheDecoded() {
        HeaderSqueezer x = new HeaderSqueezer();
        due("deliverAll() of none", x.deliverAll(), 0);
        x.stream(20);
        due("deliverAll() of 20", x.deliverAll(), 20);
        x.stream(1);
        x.copy(0);
        due("deliverAll() of one and its copy", x.deliverAll(), 1);
        x.setPolicy(1, 1);
        x.stream(3);
        x.lose(0);
        due("deliverAll() of unknown ones", x.deliverAll(), 0);
        HeaderSqueezer y = withPacketHeldBack(1);
        y.send();
        due("deliverAll() of a wrong one and a repetition of it", y.deliverAll(), 1);
    }

    private static void loseIndexes() {
        HeaderSqueezer x = new HeaderSqueezer();
        refused(x, BOUNDS, "lose(0) of an empty link", () -> x.lose(0));
        x.stream(20);
        refused(x, BOUNDS, "lose(20) of 20", () -> x.lose(20));
        due("lose(19) of 20", x.lose(19), 19);
        refused(x, BOUNDS, "lose(19) of 19", () -> x.lose(19));
        for (int bad : WRONG_INTS) {
            refused(x, BOUNDS, "lose(" + bad + ")", () -> x.lose(bad));
        }
    }

    private static void loseAnswersTheNumber() {
        HeaderSqueezer x = new HeaderSqueezer();
        x.stream(3);
        x.copy(1);
        due("lose(0)", x.lose(0), 0);
        due("lose(2) of a copy", x.lose(2), 1);
        due("lose(1)", x.lose(1), 2);
        due("lose(0)", x.lose(0), 1);
        dueCounts(x, 3, 0, 0, 0, 0, 0, 0, 3);
        due("saved(): what is lost was sent", x.saved(), -18);
    }

    private static void copyIndexes() {
        HeaderSqueezer x = new HeaderSqueezer();
        refused(x, BOUNDS, "copy(0) of an empty link", () -> x.copy(0));
        x.stream(3);
        refused(x, BOUNDS, "copy(3) of three", () -> x.copy(3));
        due("copy(2) of three", x.copy(2), 4);
        for (int bad : WRONG_INTS) {
            refused(x, BOUNDS, "copy(" + bad + ")", () -> x.copy(bad));
        }
    }

    private static void copyAnswersWhatWaits() {
        HeaderSqueezer x = new HeaderSqueezer();
        x.stream(1);
        for (int waiting = 2; waiting <= 20; waiting++) {
            due("copy(0)", x.copy(0), waiting);
        }
        due("count(0)", x.count(0), 1);
    }

    private static void copyIntoAFullLink() {
        HeaderSqueezer x = new HeaderSqueezer();
        x.stream(19);
        due("copy(18) into 19", x.copy(18), 20);
        refused(x, STATE, "copy(0) into 20", () -> x.copy(0));
        refused(x, STATE, "copy(19) into 20", () -> x.copy(19));
        x.lose(3);
        due("copy(0) into 19", x.copy(0), 20);
        due("waitingAt(false, 19)", x.waitingAt(false, 19), 0);
    }

    private static void dueMessageIndexes(boolean lost) {
        String name = lost ? "loseBack" : "deliverBack";
        HeaderSqueezer x = new HeaderSqueezer();
        IntCall call = index -> lost ? x.loseBack(index) : x.deliverBack(index);
        refused(x, BOUNDS, name + "(0) of an empty link", () -> call.answer(0));
        x.stream(20);
        refused(x, BOUNDS, name + "(0) of an empty link beside a full one", () -> call.answer(0));
        x.deliverAll();
        refused(x, BOUNDS, name + "(20) of 20", () -> call.answer(20));
        due(name + "(19) of 20", call.answer(19), 19);
        refused(x, BOUNDS, name + "(19) of 19", () -> call.answer(19));
        for (int bad : WRONG_INTS) {
            refused(x, BOUNDS, name + "(" + bad + ")", () -> call.answer(bad));
        }
    }

    private static void messagesThatAreDelivered() {
        HeaderSqueezer x = withRepairRequested();
        x.setPolicy(0, 0);
        x.send();
        x.deliver(0);
        dueLink(x, true, NONE, 2);
        due("deliverBack(1)", x.deliverBack(1), 2);
        due("deliverBack(0) of a request", x.deliverBack(0), NONE);
        due("sent(2, 7)", x.sent(2, 7), 1);
        due("sizeWith(1, 1)", x.sizeWith(1, 1), 12);
    }

    private static void messagesThatAreLost() {
        HeaderSqueezer x = withRepairRequested();
        x.setPolicy(0, 0);
        x.send();
        x.deliver(0);
        due("loseBack(0) of a request", x.loseBack(0), NONE);
        due("loseBack(0)", x.loseBack(0), 2);
        due("sent(2, 7)", x.sent(2, 7), 0);
        due("sizeWith(1, 1)", x.sizeWith(1, 1), 3);
    }

    private static void waitingOfBoth() {
        HeaderSqueezer x = new HeaderSqueezer();
        onlyAnswers(x, "waiting(false) of none", 0, () -> x.waiting(false));
        onlyAnswers(x, "waiting(true) of none", 0, () -> x.waiting(true));
        x.stream(20);
        onlyAnswers(x, "waiting(false) of 20", 20, () -> x.waiting(false));
        onlyAnswers(x, "waiting(true) beside a full link", 0, () -> x.waiting(true));
        x.deliverAll();
        onlyAnswers(x, "waiting(false) after deliverAll()", 0, () -> x.waiting(false));
        onlyAnswers(x, "waiting(true) of 20", 20, () -> x.waiting(true));
    }

    private static void waitingAtIndexes() {
        HeaderSqueezer x = new HeaderSqueezer();
        x.stream(20);
        dueRange(x, BOUNDS, "waitingAt(false, ..) of 20", 0, 19, v -> x.waitingAt(false, v));
        refused(x, BOUNDS, "waitingAt(true, 0) beside a full link", () -> x.waitingAt(true, 0));
        x.deliverAll();
        refused(x, BOUNDS, "waitingAt(false, 0) of none", () -> x.waitingAt(false, 0));
        dueRange(x, BOUNDS, "waitingAt(true, ..) of 20", 0, 19, v -> x.waitingAt(true, v));
        x.loseBack(0);
        refused(x, BOUNDS, "waitingAt(true, 19) of 19", () -> x.waitingAt(true, 19));
        onlyAnswers(x, "waitingAt(true, 0)", 1, () -> x.waitingAt(true, 0));
    }

    // ---- 20 to 24

    private static void setReceiverRefused() {
        HeaderSqueezer x = new HeaderSqueezer();
        for (int bad : WRONG_INTS) {
            refused(x, ARGUMENT, "setReceiver(" + bad + ", 1, 1)", () -> x.setReceiver(bad, 1, 1));
            refused(x, ARGUMENT, "setReceiver(0, " + bad + ", 1)", () -> x.setReceiver(0, bad, 1));
            refused(x, ARGUMENT, "setReceiver(0, 1, " + bad + ")", () -> x.setReceiver(0, 1, bad));
        }
        refused(x, ARGUMENT, "setReceiver(16, 16, 8)", () -> x.setReceiver(16, 16, 8));
        refused(x, ARGUMENT, "setReceiver(15, 17, 8)", () -> x.setReceiver(15, 17, 8));
        refused(x, ARGUMENT, "setReceiver(15, 16, 9)", () -> x.setReceiver(15, 16, 9));
        due("setReceiver(15, 16, 8)", x.setReceiver(15, 16, 8), 3);
    }

    private static void setReceiverAnswersTheDepth() {
        HeaderSqueezer x = new HeaderSqueezer();
        due("setReceiver(15, 16, 8)", x.setReceiver(15, 16, 8), 3);
        due("setReceiver(0, 1, 1)", x.setReceiver(0, 1, 1), 15);
        due("setReceiver(0, 2, 2)", x.setReceiver(0, 2, 2), 0);
    }

    private static void highestAnswers() {
        HeaderSqueezer x = new HeaderSqueezer();
        onlyAnswers(x, "highest() of none", -1, x::highest);
        x.stream(2);
        onlyAnswers(x, "highest() of none delivered", -1, x::highest);
        x.deliver(0);
        onlyAnswers(x, "highest() of packet 0", 0, x::highest);
        HeaderSqueezer y = withPacketHeldBack(1);
        y.deliver(0);
        onlyAnswers(y, "highest() of a number that was never sent", 65, y::highest);
    }

    private static void recordRefused() {
        HeaderSqueezer x = new HeaderSqueezer();
        streamAndDeliver(x, 3);
        for (int bad : WRONG_INTS) {
            refused(x, ARGUMENT, "record(" + bad + ", 0)", () -> x.record(bad, 0));
            refused(x, ARGUMENT, "record(0, " + bad + ")", () -> x.record(0, bad));
        }
        refused(x, ARGUMENT, "record(1000, 5)", () -> x.record(1000, 5));
        refused(x, ARGUMENT, "record(999, 6), no such record", () -> x.record(999, 6));
        refused(x, ARGUMENT, "record(2, 6)", () -> x.record(2, 6));
    }

    private static void noRecord() {
        HeaderSqueezer x = new HeaderSqueezer();
        dueRecord(x, 0, NONE, NONE, NONE, NONE, NONE, NONE);
        dueRecord(x, 999, NONE, NONE, NONE, NONE, NONE, NONE);
        x.stream(3);
        x.deliver(1);
        dueRecord(x, 0, NONE);
        dueRecord(x, 1, 0, 2, 320, 0, 1, 160);
        dueRecord(x, 2, NONE);
        dueRecord(x, 65, NONE);
        dueRecord(x, 64 + 65, NONE);
        HeaderSqueezer y = new HeaderSqueezer();
        streamAndDeliver(y, 100);
        dueRecord(y, 36, 0, 37, 5920, 0, 1, 160);
        dueRecord(y, 35, NONE, NONE, NONE, NONE, NONE, NONE);
        dueRecord(y, 99, 0, 100, 16000, 0, 1, 160);
        dueRecord(y, 100, NONE);
    }

    private static void recordsKept() {
        HeaderSqueezer x = new HeaderSqueezer();
        onlyAnswers(x, "records() of none", 0, x::records);
        x.stream(2);
        x.deliver(0);
        onlyAnswers(x, "records() of one", 1, x::records);
        x.deliver(0);
        streamAndDeliver(x, 61);
        onlyAnswers(x, "records() of 63", 63, x::records);
        streamAndDeliver(x, 1);
        onlyAnswers(x, "records() of 64", 64, x::records);
        streamAndDeliver(x, 20);
        onlyAnswers(x, "records() of 84", 64, x::records);
        sendAndLose(x, 0, 100);
        streamAndDeliver(x, 1);
        onlyAnswers(x, "records() after 16 were lost", 48, x::records);
    }

    private static void numberForRefused() {
        HeaderSqueezer x = new HeaderSqueezer();
        streamAndDeliver(x, 100);
        refused(x, ARGUMENT, "numberFor(64)", () -> x.numberFor(64));
        refused(x, ARGUMENT, "numberFor(99), a number that is no told one", () -> x.numberFor(99));
        for (int bad : WRONG_INTS) {
            refused(x, ARGUMENT, "numberFor(" + bad + ")", () -> x.numberFor(bad));
        }
    }

    private static void numbersOf64() {
        HeaderSqueezer x = new HeaderSqueezer();
        streamAndDeliver(x, 100);
        onlyAnswers(x, "numberFor(33) at H = 99", 97, () -> x.numberFor(33));
        onlyAnswers(x, "numberFor(32) at H = 99", 160, () -> x.numberFor(32));
        onlyAnswers(x, "numberFor(0) at H = 99", 128, () -> x.numberFor(0));
        onlyAnswers(x, "numberFor(63) at H = 99", 127, () -> x.numberFor(63));
    }

    private static void numbersCanBeNegative() {
        HeaderSqueezer x = new HeaderSqueezer();
        onlyAnswers(x, "numberFor(63) by depth 3", -1, () -> x.numberFor(63));
        onlyAnswers(x, "numberFor(61) by depth 3", -3, () -> x.numberFor(61));
        onlyAnswers(x, "numberFor(60) by depth 3", 60, () -> x.numberFor(60));
        onlyAnswers(x, "numberFor(0) by depth 3", 0, () -> x.numberFor(0));
        x.setReceiver(15, 1, 1);
        onlyAnswers(x, "numberFor(49) by depth 15", -15, () -> x.numberFor(49));
        onlyAnswers(x, "numberFor(48) by depth 15", 48, () -> x.numberFor(48));
        streamAndDeliver(x, 15);
        onlyAnswers(x, "numberFor(0) at H = 14", 0, () -> x.numberFor(0));
        onlyAnswers(x, "numberFor(63) at H = 14", 63, () -> x.numberFor(63));
    }

    // ---- 25 to 28

    private static void counts() {
        dueCounts(new HeaderSqueezer(), 0, 0, 0, 0, 0, 0, 0, 0);
        HeaderSqueezer y = withPacketHeldBack(1);
        y.copy(0);
        y.copy(0);
        y.deliverAll();
        y.setPolicy(1, 1);
        y.setReceiver(3, 1, 1);
        y.stream(6);
        y.lose(0);
        y.lose(0);
        y.deliverAll();
        dueCounts(y, 71, 2, 1, 1, 4, 2, 4, 64);
        onlyAnswers(y, "count(4)", 4, () -> y.count(4));
    }

    private static void fullPacketsCount() {
        HeaderSqueezer x = with(1, 2);
        due("count(7) of none", x.count(7), 0);
        x.stream(4);
        onlyAnswers(x, "count(7) of two without a reference", 2, () -> x.count(7));
        x.copy(0);
        x.lose(0);
        due("count(7) after a copy and a loss", x.count(7), 2);
        x.setPolicy(0, 2);
        x.send();
        due("count(7) with one by the policy", x.count(7), 3);
        HeaderSqueezer y = withRepairRequested();
        y.deliverBack(0);
        y.stream(2);
        due("count(7) with one of a repair", y.count(7), 2);
    }

    private static void countRefused() {
        HeaderSqueezer x = new HeaderSqueezer();
        refused(x, ARGUMENT, "count(8)", () -> x.count(8));
        for (int bad : WRONG_INTS) {
            refused(x, ARGUMENT, "count(" + bad + ")", () -> x.count(bad));
        }
    }

    private static void requestsLostAtOnceCount() {
        HeaderSqueezer x = new HeaderSqueezer();
        streamAndDeliver(x, 20);
        x.setReceiver(3, 1, 1);
        x.setPolicy(1, 1);
        x.stream(4);
        x.lose(0);
        x.deliverAll();
        due("count(6)", x.count(6), 3);
        due("waiting(true)", x.waiting(true), 20);
        due("waitingAt(true, 19)", x.waitingAt(true, 19), 19);
        x.loseBack(0);
        due("count(6) after a loss", x.count(6), 3);
    }

    private static void savedBytes() {
        HeaderSqueezer x = with(1, 1);
        onlyAnswers(x, "saved() of none", 0, x::saved);
        x.send();
        onlyAnswers(x, "saved() below 0", -6, x::saved);
        setHeader(x, 1, 30000, 30000, 1);
        x.send();
        onlyAnswers(x, "saved() with a packet of 9", -9, x::saved);
        for (int i = 0; i < 3; i++) {
            x.send();
        }
        onlyAnswers(x, "saved() with three packets of 3", 0, x::saved);
        x.send();
        onlyAnswers(x, "saved() above 0", 3, x::saved);
        x.copy(0);
        x.lose(0);
        onlyAnswers(x, "saved() after a copy and a loss", 3, x::saved);
    }

    private static void greatestLateness() {
        HeaderSqueezer x = new HeaderSqueezer();
        onlyAnswers(x, "lateness() of none", 0, x::lateness);
        x.stream(6);
        x.deliver(5);
        onlyAnswers(x, "lateness() of one", 0, x::lateness);
        x.deliver(2);
        onlyAnswers(x, "lateness() of packet 2 at H = 5", 3, x::lateness);
        x.deliver(3);
        onlyAnswers(x, "lateness() after a smaller one", 3, x::lateness);
        x.deliver(0);
        onlyAnswers(x, "lateness() after a greater one", 5, x::lateness);
        x.lose(0);
        onlyAnswers(x, "lateness() after a loss", 5, x::lateness);
    }

    private static void meanOfNone() {
        HeaderSqueezer x = new HeaderSqueezer();
        dueMean("meanSize() of none", x.meanSize(), 0.0);
        x.send();
        dueMean("meanSize() of one", x.meanSize(), 12.0);
        x.undo();
        dueMean("meanSize() of none again", x.meanSize(), 0.0);
    }

    private static void meanOfMany() {
        HeaderSqueezer x = with(1, 1);
        int sum = 0;
        for (int packets = 1; packets <= 60; packets++) {
            x.stream(1);
            x.lose(0);
            sum += packets == 1 ? 12 : 6;
            long before = x.digest();
            dueMean("meanSize() of " + packets, x.meanSize(), (double) sum / (double) packets);
            due("digest() after meanSize()", x.digest(), before);
        }
    }

    // ---- 29 to 33

    private static void appendRefused() {
        HeaderSqueezer x = new HeaderSqueezer();
        refused(x, ARGUMENT, "append(128)", () -> x.append(128));
        refused(x, ARGUMENT, "append(256)", () -> x.append(256));
        for (int bad : WRONG_INTS) {
            refused(x, ARGUMENT, "append(" + bad + ")", () -> x.append(bad));
        }
    }

    private static void appendAnswersTheLength() {
        HeaderSqueezer x = new HeaderSqueezer();
        due("append(0)", x.append(0), 1);
        due("append(127)", x.append(127), 2);
        x.clearText();
        for (int length = 1; length <= 100; length++) {
            due("append()", x.append('d'), length);
        }
    }

    private static void appendToAFullText() {
        HeaderSqueezer x = new HeaderSqueezer();
        write(x, "n;".repeat(49) + "n");
        due("append() to 99 bytes", x.append(';'), 100);
        refused(x, STATE, "append() to 100 bytes", () -> x.append('n'));
        refused(x, STATE, "append() to 100 bytes again", () -> x.append(';'));
        due("carryOut(): the text is the same", x.carryOut(), 50);
    }

    private static void textIsNoState() {
        HeaderSqueezer x = new HeaderSqueezer();
        x.append('n');
        x.clearText();
        refused(x, STATE, "undo(): neither saves a state", x::undo);
    }

    private static void clearTextAnswersTheLength() {
        HeaderSqueezer x = new HeaderSqueezer();
        due("clearText() of none", x.clearText(), 0);
        due("append()", x.append(7), 1);
        due("clearText() of one", x.clearText(), 1);
        due("clearText() again", x.clearText(), 0);
        write(x, "q".repeat(100));
        due("clearText() of 100", x.clearText(), 100);
        due("append() to the emptied text", x.append('n'), 1);
    }

    private static void nothingIsChangedByAFailure() {
        String[] texts = {"n;s;d0;a0;n;c0;", "s;s;s;l1;c1;d5;", "s;d0;x0;a0;", "n;n;n;s;d0;d0;", "x0;"};
        int[] failing = {5, 5, 3, 5, 0};
        for (int i = 0; i < texts.length; i++) {
            HeaderSqueezer x = with(1, 1);
            x.setStrides(3, 7);
            write(x, texts[i]);
            onlyAnswers(x, "carryOut() of " + texts[i], -1000 - failing[i], x::carryOut);
            due("clearText(): the text stays", x.clearText(), texts[i].length());
            due("undo()", x.undo(), 1);
        }
    }

    private static void failureAtTheEdges() {
        HeaderSqueezer x = new HeaderSqueezer();
        write(x, "n;".repeat(48) + "d0;");
        onlyAnswers(x, "carryOut() whose order 48 fails", -1048, x::carryOut);
        write(x, "d0;" + "n;".repeat(48));
        onlyAnswers(x, "carryOut() whose order 0 fails", -1000, x::carryOut);
        write(x, "s;".repeat(21));
        onlyAnswers(x, "carryOut() of 21 packets", -1020, x::carryOut);
        write(x, "s;".repeat(20));
        due("carryOut() of 20 packets", x.carryOut(), 20);
        onlyAnswers(x, "carryOut() into a full link", -1000, x::carryOut);
        due("carryOut() of l19;c18;", run(x, "l19;c18;"), 2);
        write(x, "l0;c19;");
        onlyAnswers(x, "carryOut() of a copy beyond the end", -1001, x::carryOut);
        write(x, "c0;");
        onlyAnswers(x, "carryOut() of a copy into a full link", -1000, x::carryOut);
    }

    private static void failureWith500() {
        HeaderSqueezer x = new HeaderSqueezer();
        streamAndDeliver(x, 498);
        write(x, "s;n;s;s;");
        onlyAnswers(x, "carryOut() of packet 500", -1003, x::carryOut);
        due("carryOut() of packets 498 and 499", run(x, "s;n;s;"), 3);
        due("count(0)", x.count(0), 500);
    }

    private static void oneStateForAllOrders() {
        HeaderSqueezer x = new HeaderSqueezer();
        x.setField(0, 4);
        write(x, "n;s;".repeat(10) + "d9;d0;a1;x0;");
        undoable(x, 1, "carryOut() of 24 orders", 24, x::carryOut);
        due("field(1)", x.field(1), 0);
        due("undo()", x.undo(), 0);
        for (int value = 1; value < 6; value++) {
            x.setField(0, value);
        }
        due("carryOut() with four saved states", x.carryOut(), 24);
        due("undo() of the script", x.undo(), 3);
        due("field(0)", x.field(0), 5);
        due("undo()", x.undo(), 2);
        due("undo()", x.undo(), 1);
        due("undo()", x.undo(), 0);
        due("field(0)", x.field(0), 2);
    }

    private static void numberOfOrders() {
        HeaderSqueezer x = new HeaderSqueezer();
        due("carryOut() of none", x.carryOut(), 0);
        due("carryOut() of one", run(x, "n;"), 1);
        due("carryOut() of 50", run(x, "n;".repeat(50)), 50);
        due("carryOut() of 50 again", x.carryOut(), 50);
        due("field(1)", x.field(1), 101);
    }

    private static void syntaxBeforeOrders() {
        HeaderSqueezer x = new HeaderSqueezer();
        write(x, "d9;q");
        onlyAnswers(x, "carryOut() with a syntax error behind an order that would throw", -13, x::carryOut);
        write(x, "n;s;d0;a");
        onlyAnswers(x, "carryOut() that ends too early behind good orders", -18, x::carryOut);
        write(x, "q");
        onlyAnswers(x, "carryOut() of q", -10, x::carryOut);
    }

    private static void statesThatAreRestored() {
        HeaderSqueezer x = new HeaderSqueezer();
        x.setField(0, 1);
        x.send();
        x.deliver(0);
        x.deliverBack(0);
        due("sent(0, 7)", x.sent(0, 7), 1);
        x.undo();
        dueLink(x, true, 0);
        due("sent(0, 7)", x.sent(0, 7), 0);
        x.undo();
        dueLink(x, true);
        dueLink(x, false, 0);
        due("records()", x.records(), 0);
        x.undo();
        dueLink(x, false);
        due("field(0)", x.field(0), 1);
        x.undo();
        due("field(0)", x.field(0), 0);
    }

    private static void statesThatRemain() {
        HeaderSqueezer x = new HeaderSqueezer();
        for (int saved = 1; saved <= 7; saved++) {
            x.advance();
            due("undo() of " + saved, x.undo(), Math.min(saved, 4) - 1);
            x.advance();
        }
        for (int remaining = 3; remaining >= 0; remaining--) {
            due("undo()", x.undo(), remaining);
            due("field(1)", x.field(1), 3 + remaining);
        }
    }

    private static void noSavedState() {
        HeaderSqueezer x = new HeaderSqueezer();
        refused(x, STATE, "undo() of none", x::undo);
        x.advance();
        due("undo() of one", x.undo(), 0);
        refused(x, STATE, "undo() of none again", x::undo);
        for (int i = 0; i < 5; i++) {
            x.advance();
        }
        for (int i = 0; i < 4; i++) {
            x.undo();
        }
        refused(x, STATE, "undo() of the fifth", x::undo);
    }

    // ---- the digest

    private static final int[] FIRST_SENDER = {0, 1, 160, 0, 0, 0};
    private static final int[] FIRST_RECEIVER = {3, 1, 2};

    /** The digest after so many full packets were streamed and delivered in order. */
    private static long digestOfStream(int packets) {
        long h = hash(3061, 0, 0, packets, 160 * packets % 65536, 0, 1, 160, 0, 0, 0);
        for (int number = 1; number <= packets; number++) {
            h = hash(h, 0, number, 160 * number % 65536, 0, 12, 0, NONE, 0);
        }
        h = hash(h, 0, Math.min(packets, 20));
        for (int message = 0; message < Math.min(packets, 20); message++) {
            h = hash(h, message);
        }
        h = hash(h, 3, 1, 2, packets - 1, 0, Math.min(packets, 64));
        for (int number = Math.max(1, packets - 63); number <= packets; number++) {
            h = hash(h, 0, number, 160 * number % 65536, 0, 1, 160);
        }
        h = hash(h, packets, packets, packets, 0, 0, 0, 0, packets);
        return hash(h, -6 * packets, 0, Math.min(4, 2 * ((packets + 19) / 20)));
    }

    private static void dueDigestOfStream(int packets) {
        HeaderSqueezer x = new HeaderSqueezer();
        streamAndDeliver(x, packets);
        due("digest() at H = " + (packets - 1), x.digest(), digestOfStream(packets));
    }

    private static void digestOfH() {
        for (int packets : new int[] {0, 1, 2, 63, 64, 65, 66, 128, 129}) {
            dueDigestOfStream(packets);
        }
    }

    private static void digestOfSettings() {
        HeaderSqueezer x = new HeaderSqueezer();
        setHeader(x, 255, 65535, 65534, 15);
        due("digest() of the greatest header", x.digest(),
                digestBy(x, FIRST_SENDER, FIRST_RECEIVER, 0, 4));
        x.setStrides(255, 4095);
        x.setPolicy(2, 15);
        x.setReceiver(15, 16, 8);
        write(x, "n".repeat(100));
        due("digest() of the greatest settings", x.digest(),
                digestBy(x, new int[] {100, 255, 4095, 2, 15, 0}, new int[] {15, 16, 8}, 0, 4));
        x.setStrides(0, 0);
        x.setReceiver(0, 1, 1);
        x.setPolicy(0, 0);
        x.clearText();
        due("digest() of the least settings", x.digest(),
                digestBy(x, new int[] {0, 0, 0, 0, 0, 0}, new int[] {0, 1, 1}, 0, 4));
    }

    private static void digestOfRepair() {
        HeaderSqueezer x = withRepairRequested();
        int[] receiver = {3, 1, 1};
        due("digest() with a request under way", x.digest(),
                digestBy(x, new int[] {0, 1, 160, 1, 1, 0}, receiver, 0, 4));
        x.deliverBack(0);
        due("digest() with a repair due", x.digest(),
                digestBy(x, new int[] {0, 1, 160, 1, 1, 1}, receiver, 0, 4));
        x.send();
        due("digest() after the repair", x.digest(),
                digestBy(x, new int[] {0, 1, 160, 1, 1, 0}, receiver, 0, 4));
    }

    private static void digestOfRow() {
        for (int unknown = 0; unknown <= 9; unknown++) {
            HeaderSqueezer x = with(1, 1);
            x.setReceiver(3, 1, 8);
            x.stream(10);
            x.lose(0);
            for (int i = 0; i < unknown; i++) {
                x.deliver(0);
            }
            due("digest() after " + unknown + " unknown ones by the patience 8", x.digest(),
                    digestBy(x, new int[] {0, 1, 160, 1, 1, 0}, new int[] {3, 1, 8}, unknown % 8, 4));
        }
    }

    private static void digestOfSavedStates() {
        HeaderSqueezer x = new HeaderSqueezer();
        for (int states = 1; states < 7; states++) {
            x.advance();
            due("digest() after " + states + " calls", x.digest(),
                    digestBy(x, FIRST_SENDER, FIRST_RECEIVER, 0, Math.min(states, 4)));
        }
        for (int states = 3; states >= 0; states--) {
            x.undo();
            due("digest() with " + states + " states", x.digest(),
                    digestBy(x, FIRST_SENDER, FIRST_RECEIVER, 0, states));
        }
    }

    private static void digestOfLongRuns() {
        dueDigestOfStream(20);
        dueDigestOfStream(410);
        dueDigestOfStream(500);
    }

    // ---- what is tested, promise by promise

    private static void settings() {
        promise(1, "with no packets sent and empty links", () -> {
            emptyAtFirst();
            objectsShareNothing();
        });
        range(2, "field: 0 to 3", BOUNDS, 0, 3, (x, v) -> x.setField(v, 1));
        promise(2, "value: the new value, in the range of the field", PromiseSentences::setFieldRanges);
        promise(2, "Returns the previous value.", PromiseSentences::setFieldAnswersThePrevious);
        promise(2, NO_FIELD, () -> refusedFields((x, bad) -> x.setField(bad, 0)));
        promise(2, "Throws IllegalArgumentException if value is out of range",
                PromiseSentences::setFieldRefused);
        undoableCall(2, 0, x -> x.setField(0, 9));
        range(3, "sequence: 0 to 255", ARGUMENT, 0, 255, (x, v) -> x.setStrides(v, 5));
        range(3, "time: 0 to 4095", ARGUMENT, 0, 4095, (x, v) -> x.setStrides(5, v));
        promise(3, "Returns the previous time stride.", PromiseSentences::setStridesAnswersTheTimeStride);
        promise(3, ARGUMENT_RANGE, PromiseSentences::setStridesRefused);
        undoableCall(3, 160, x -> x.setStrides(2, 3));
        range(4, "policy: 0 to 2", ARGUMENT, 0, 2, (x, v) -> x.setPolicy(v, 3));
        range(4, "confidence: 0 to 15", ARGUMENT, 0, 15, (x, v) -> x.setPolicy(1, v));
        promise(4, "Returns the previous policy.", PromiseSentences::setPolicyAnswersThePrevious);
        promise(4, ARGUMENT_RANGE, PromiseSentences::setPolicyRefused);
        undoableCall(4, 1, x -> x.setPolicy(2, 5));
        promise(5, "Returns its sequence afterwards.",
                PromiseSentences::advanceAnswersTheSequenceAfterwards);
        undoableCall(5, 3, HeaderSqueezer::advance);
    }

    private static void sending() {
        promise(6, "Returns the number of the packet.", PromiseSentences::sendAnswersTheNumber);
        promise(6, "Throws IllegalStateException if 500 packets have been sent, or the forward link has "
                + "20 packets", PromiseSentences::sendRefused);
        undoableCall(6, 3, HeaderSqueezer::send);
        promise(7, "Advances and sends, a number of times in turn.",
                PromiseSentences::streamAdvancesFirst);
        promise(7, "times: 1 to 20", PromiseSentences::streamTimes);
        promise(7, "Returns the number of packets in the forward link.",
                PromiseSentences::streamAnswersWhatWaits);
        promise(7, "Throws IllegalArgumentException if times is out of range",
                PromiseSentences::streamTimesRefused);
        promise(7, "Throws IllegalStateException if more than 500 packets would be sent, or the forward "
                + "link would have more than 20 packets",
                PromiseSentences::streamOfMoreThanThereIsRoomFor);
        undoableCall(7, 4, x -> x.stream(3));
        range(8, "field: 0 to 3", BOUNDS, 0, 3, (x, v) -> x.field(v));
        promise(8, "Returns its value.", PromiseSentences::fieldAnswersItsValue);
        promise(8, NO_FIELD, () -> refusedFields((x, bad) -> x.field(bad)));
    }

    private static void packets() {
        promise(9, "Returns the size that a packet with the present header would have if it were sent "
                + "now with a policy and a confidence.", () -> {
            sizesAsIfSent();
            sizesWhenNoneCanBeSent();
        });
        range(9, "policy: 0 to 2", ARGUMENT, 0, 2, (x, v) -> x.sizeWith(v, 3));
        range(9, "confidence: 0 to 15", ARGUMENT, 0, 15, (x, v) -> x.sizeWith(1, v));
        promise(9, ARGUMENT_RANGE, PromiseSentences::sizeWithRefused);
        promise(10, "Returns its number; NONE if there is none.", PromiseSentences::noReference);
        promise(10, "with the present confidence", PromiseSentences::referenceByThePresentConfidence);
        range(11, "packet: number of a packet", BOUNDS, 0, 2, (x, v) -> x.sent(v, 4));
        range(11, "what: 0 to 3 the fields of its header", ARGUMENT, 0, 7, (x, v) -> x.sent(2, v));
        promise(11, "4 its size, 5 its form (0 full, 1 delta, 2 pattern), 6 its reference",
                PromiseSentences::sentWhat);
        promise(11, "(NONE for a full packet)", PromiseSentences::noReferenceOfFullPackets);
        promise(11, "7 1 if it has been acknowledged, otherwise 0",
                PromiseSentences::sentIsAcknowledged);
        promise(11, "Throws IndexOutOfBoundsException if no packet with this number has been sent",
                PromiseSentences::sentOfNone);
        promise(11, "Throws IllegalArgumentException if what is out of range",
                PromiseSentences::sentOfNoSuchWhat);
    }

    private static void forwardLink() {
        promise(12, "Returns 0 if it was decoded and is right, 1 if it was decoded and is wrong, 2 if it "
                + "was unknown, 3 if it was a repetition.", PromiseSentences::deliverAnswers);
        promise(12, NO_INDEX, PromiseSentences::deliverIndexes);
        undoableCall(12, 0, x -> x.deliver(0));
        promise(13, "Delivers all packets of the forward link, from the first one on.",
                PromiseSentences::deliverAllFromTheFirstOn);
        promise(13, "Returns the number of packets that were decoded.",
                PromiseSentences::deliverAllAnswersTheDecoded);
        undoableCall(13, 1, HeaderSqueezer::deliverAll);
        promise(14, "Returns its number.", PromiseSentences::loseAnswersTheNumber);
        promise(14, NO_INDEX, PromiseSentences::loseIndexes);
        undoableCall(14, 2, x -> x.lose(0));
        promise(15, "Returns the number of packets in the link.", PromiseSentences::copyAnswersWhatWaits);
        promise(15, NO_INDEX, PromiseSentences::copyIndexes);
        promise(15, "Throws IllegalStateException if the link has 20 packets",
                PromiseSentences::copyIntoAFullLink);
        undoableCall(15, 2, x -> x.copy(0));
    }

    private static void returnLink() {
        promise(16, "Returns the number that is acknowledged; NONE for a request for repair.",
                PromiseSentences::messagesThatAreDelivered);
        promise(16, NO_INDEX, () -> dueMessageIndexes(false));
        undoableCall(16, 1, x -> x.deliverBack(0));
        promise(17, "Returns the number that is acknowledged; NONE for a request for repair.",
                PromiseSentences::messagesThatAreLost);
        promise(17, NO_INDEX, () -> dueMessageIndexes(true));
        undoableCall(17, 1, x -> x.loseBack(0));
        promise(18, "Returns the number of packets or messages in a link.",
                PromiseSentences::waitingOfBoth);
        promise(19, NO_INDEX, PromiseSentences::waitingAtIndexes);
        promise(19, "(NONE for a request for repair)",
                () -> dueLink(withRepairRequested(), true, NONE));
    }

    private static void receiver() {
        range(20, "depth: 0 to 15", ARGUMENT, 0, 15, (x, v) -> x.setReceiver(v, 2, 3));
        range(20, "interval: 1 to 16", ARGUMENT, 1, 16, (x, v) -> x.setReceiver(2, v, 3));
        range(20, "patience: 1 to 8", ARGUMENT, 1, 8, (x, v) -> x.setReceiver(2, 3, v));
        promise(20, "Returns the previous depth.", PromiseSentences::setReceiverAnswersTheDepth);
        promise(20, ARGUMENT_RANGE, PromiseSentences::setReceiverRefused);
        undoableCall(20, 3, x -> x.setReceiver(1, 2, 3));
        promise(21, "Returns the highest number that the receiver has decoded.",
                PromiseSentences::highestAnswers);
        range(22, "number: 0 to 999", ARGUMENT, 0, 999, (x, v) -> x.record(v, 1));
        range(22, "what: 0 to 3 the fields of the header, 4 the sequence stride, 5 the time stride",
                ARGUMENT, 0, 5, (x, v) -> x.record(0, v));
        promise(22, "Returns that value; NONE if the receiver has no record of this number.",
                PromiseSentences::noRecord);
        promise(22, ARGUMENT_RANGE, PromiseSentences::recordRefused);
        promise(23, "Returns the number of records that the receiver keeps.",
                PromiseSentences::recordsKept);
        range(24, "told: 0 to 63", ARGUMENT, 0, 63, (x, v) -> x.numberFor(v));
        promise(24, "Returns the number (it can be negative).", () -> {
            numbersCanBeNegative();
            numbersOf64();
        });
        promise(24, "Throws IllegalArgumentException if told is out of range",
                PromiseSentences::numberForRefused);
    }

    private static void countsAndSizes() {
        range(25, "what: 0 packets sent", ARGUMENT, 0, 7, (x, v) -> x.count(v));
        promise(25, "1 packets decoded, 2 right ones, 3 wrong ones, 4 unknown ones, 5 repetitions",
                PromiseSentences::counts);
        promise(25, "6 requests for repair (also ones that were lost at once)",
                PromiseSentences::requestsLostAtOnceCount);
        promise(25, "7 full packets sent", PromiseSentences::fullPacketsCount);
        promise(25, "Throws IllegalArgumentException if what is out of range",
                PromiseSentences::countRefused);
        promise(26, "the plain sizes of the packets sent minus their sizes.",
                PromiseSentences::savedBytes);
        promise(27, "Returns the greatest lateness of all packets that were received.",
                PromiseSentences::greatestLateness);
        promise(28, "0.0 if none has been sent.", PromiseSentences::meanOfNone);
        promise(28, "Returns the sum of the sizes, converted to double, divided by their number, "
                + "converted to double", PromiseSentences::meanOfMany);
    }

    private static void text() {
        range(29, "value: the byte, 0 to 127", ARGUMENT, 0, 127, (x, v) -> x.append(v));
        promise(29, "Returns the new length of the text.", PromiseSentences::appendAnswersTheLength);
        promise(29, "Throws IllegalArgumentException if value is out of range",
                PromiseSentences::appendRefused);
        promise(29, "Throws IllegalStateException if the text has 100 bytes",
                PromiseSentences::appendToAFullText);
        promise(29, "Appends a byte to the script text.", PromiseSentences::textIsNoState);
        promise(30, "Returns the length that it had.", PromiseSentences::clearTextAnswersTheLength);
        promise(31, "If one of these would throw an exception, nothing is changed. The text stays as it "
                + "is.", PromiseSentences::nothingIsChangedByAFailure);
        promise(31, "Undoable, if nothing went wrong (one saved state for all orders).",
                PromiseSentences::oneStateForAllOrders);
        promise(31, "Returns the number of orders", PromiseSentences::numberOfOrders);
        promise(31, "-10 minus the syntax error position if there is a syntax error",
                PromiseSentences::syntaxBeforeOrders);
        promise(31, "-1000 minus the index of the first order (from 0) that would throw an exception.",
                () -> {
            failureAtTheEdges();
            failureWith500();
        });
    }

    private static void state() {
        promise(32, "Restores the most recently saved state and removes it from the saved states.",
                PromiseSentences::statesThatAreRestored);
        promise(32, "Returns the number of saved states that remain.",
                PromiseSentences::statesThatRemain);
        promise(32, "Throws IllegalStateException if there is no saved state",
                PromiseSentences::noSavedState);
        promise(33, "for each number from max(0, H - 63) to H (if H is not negative)",
                PromiseSentences::digestOfH);
        promise(33, "the present header; both strides; policy and confidence",
                PromiseSentences::digestOfSettings);
        promise(33, "1 or 0 for whether a repair is due", PromiseSentences::digestOfRepair);
        promise(33, "the number of packets in a row that were unknown", PromiseSentences::digestOfRow);
        promise(33, "the number of saved states.", PromiseSentences::digestOfSavedStates);
        promise(33, "with the overflow of long arithmetic ignored.",
                PromiseSentences::digestOfLongRuns);
    }

    public static void main(String[] args) throws IOException {
        readDocument();
        settings();
        sending();
        packets();
        forwardLink();
        returnLink();
        receiver();
        countsAndSizes();
        text();
        state();
        finishSentences();
    }
}
