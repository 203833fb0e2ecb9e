import java.io.IOException;

/** The boundary cases of the document's paragraphs "Script text", "Undo" and "Exceptions". */
public final class ScriptSentences extends Sentences {

    // ---- the text

    private static void hundredBytesAtMost() {
        HeaderSqueezer x = new HeaderSqueezer();
        for (int length = 1; length <= 100; length++) {
            due("append()", x.append(length % 2 == 1 ? 'n' : ';'), length);
        }
        refused(x, STATE, "append(';') to 100 bytes", () -> x.append(';'));
        due("carryOut() of 50 orders", x.carryOut(), 50);
        due("field(1)", x.field(1), 50);
        due("clearText()", x.clearText(), 100);
        due("append() to the emptied text", x.append('n'), 1);
    }

    /** Five packets wait, unknown ones too, and four messages, one of them a request for repair. */
    private static HeaderSqueezer busy() {
        HeaderSqueezer x = with(1, 1);
        setHeader(x, 3, 65530, 65000, 2);
        x.send();
        x.stream(6);
        x.deliver(0);
        x.deliver(0);
        x.deliver(1);
        x.deliver(1);
        x.setPolicy(2, 2);
        x.stream(2);
        x.copy(1);
        x.deliver(0);
        return x;
    }

    /** What the order does is what the call does, to the last value of the digest. */
    private static void dueLikeACall(String order, java.util.function.ToIntFunction<HeaderSqueezer> call) {
        HeaderSqueezer byScript = busy();
        HeaderSqueezer byCall = busy();
        write(byScript, order);
        write(byCall, order);
        due("carryOut() of " + order, byScript.carryOut(), 1);
        call.applyAsInt(byCall);
        due("digest() after " + order, byScript.digest(), byCall.digest());
        due("undo() after " + order, byScript.undo(), 3);
        byCall.undo();
        due("digest() after undo()", byScript.digest(), byCall.digest());
    }

    private static void ordersAsCalls() {
        dueLikeACall("n;", HeaderSqueezer::advance);
        dueLikeACall("s;", HeaderSqueezer::send);
        for (int index = 0; index < busy().waiting(false); index++) {
            int i = index;
            dueLikeACall("d" + i + ";", x -> x.deliver(i));
            dueLikeACall("l" + i + ";", x -> x.lose(i));
            dueLikeACall("c" + i + ";", x -> x.copy(i));
        }
        for (int index = 0; index < busy().waiting(true); index++) {
            int i = index;
            dueLikeACall("a" + i + ";", x -> x.deliverBack(i));
            dueLikeACall("x" + i + ";", x -> x.loseBack(i));
        }
    }

    private static void dueError(String text, int position) {
        HeaderSqueezer x = new HeaderSqueezer();
        x.stream(3);
        write(x, text);
        onlyAnswers(x, "carryOut() of " + text, -10 - position, x::carryOut);
    }

    private static void oneOrTwoDigits() {
        for (char letter : "dlc".toCharArray()) {
            HeaderSqueezer x = new HeaderSqueezer();
            x.stream(12);
            due("one digit", run(x, letter + "0;"), 1);
            due("two digits, the first 0", run(x, letter + "00;"), 1);
            due("two digits, the first 0", run(x, letter + "09;"), 1);
            HeaderSqueezer y = new HeaderSqueezer();
            y.stream(12);
            due("two digits", run(y, letter + "11;"), 1);
            dueError(letter + ";", 1);
            dueError(letter + "000;", 3);
            dueError(letter + "100;", 3);
        }
        for (char letter : "ax".toCharArray()) {
            HeaderSqueezer x = new HeaderSqueezer();
            streamAndDeliver(x, 12);
            due("two digits", run(x, letter + "11;"), 1);
            due("one digit", run(x, letter + "9;"), 1);
            due("two digits, the first 0", run(x, letter + "00;"), 1);
            dueError(letter + ";", 1);
            dueError(letter + "000;", 3);
        }
        dueError("n0;", 1);
        dueError("s1;", 1);
    }

    private static void twoDigitsTellTheirNumber() {
        HeaderSqueezer x = new HeaderSqueezer();
        x.stream(20);
        due("carryOut() of l19;l10;l09;", run(x, "l19;l10;l09;"), 3);
        dueLink(x, false, 0, 1, 2, 3, 4, 5, 6, 7, 8, 11, 12, 13, 14, 15, 16, 17, 18);
        due("carryOut() of l17;", run(x, "l17;"), -1000);
        due("carryOut() of l99;", run(x, "l99;"), -1000);
    }

    private static void noSpaces() {
        dueError(" ", 0);
        dueError(" n;", 0);
        dueError("n ;", 1);
        dueError("n; ", 2);
        dueError("n; n;", 2);
        dueError("d 0;", 1);
        dueError("d0 ;", 2);
    }

    private static void noOrders() {
        HeaderSqueezer x = new HeaderSqueezer();
        due("carryOut() of a text never written", x.carryOut(), 0);
        due("undo(): it is undoable", x.undo(), 0);
        x.append('n');
        x.clearText();
        due("carryOut() of an emptied text", x.carryOut(), 0);
        due("field(1)", x.field(1), 0);
    }

    // ---- the syntax error position

    private static void firstByteThatCannotStand() {
        dueError("q;", 0);
        dueError(";", 0);
        dueError("0;", 0);
        dueError("N;", 0);
        dueError("nn;", 1);
        dueError("nq", 1);
        dueError("n;;", 2);
        dueError("n;q;q;", 2);
        dueError("n;s;d0;w", 7);
        dueError("dd;", 1);
        dueError("d0d;", 2);
        dueError("d01d;", 3);
        dueError("d-1;", 1);
        dueError("d+1;", 1);
        dueError("d/;", 1);
        dueError("d:;", 1);
        dueError("d0/;", 2);
        dueError("d0:;", 2);
        dueError("s1", 1);
        dueError("n\0", 1);
        dueError("\0", 0);
        dueError("\177", 0);
    }

    private static void thirdDigit() {
        dueError("d012;", 3);
        dueError("d000;", 3);
        dueError("d123", 3);
        dueError("n;a999;", 5);
        dueError("x0000;", 3);
    }

    private static void firstBytes() {
        HeaderSqueezer x = new HeaderSqueezer();
        for (int sign = 0; sign < 128; sign++) {
            x.clearText();
            x.append(sign);
            due("carryOut() of the byte " + sign, x.carryOut(), "nsdlcax".indexOf(sign) < 0 ? -10 : -11);
        }
    }

    private static void bytesBehind(String letters, String mayFollow) {
        for (char letter : letters.toCharArray()) {
            HeaderSqueezer x = new HeaderSqueezer();
            for (int sign = 0; sign < 128; sign++) {
                x.clearText();
                x.append(letter);
                x.append(sign);
                boolean fits = mayFollow.indexOf(sign) >= 0;
                if (sign != ';') {
                    due("carryOut() of " + letter + " and the byte " + sign, x.carryOut(), fits ? -12 : -11);
                }
            }
        }
    }

    private static void endsTooEarly() {
        dueError("n", 1);
        dueError("s", 1);
        dueError("d", 1);
        dueError("d0", 2);
        dueError("d00", 3);
        dueError("n;s", 3);
        dueError("n;x", 3);
        dueError("n;s;c1", 6);
        dueError("n;s;c19", 7);
        HeaderSqueezer x = new HeaderSqueezer();
        for (int length = 0; length < 98; length++) {
            x.append(length % 2 == 0 ? 'n' : ';');
        }
        x.append('d');
        due("carryOut() of 99 bytes", x.carryOut(), -10 - 99);
        x.append('0');
        due("carryOut() of 100 bytes", x.carryOut(), -10 - 100);
        due("field(1)", x.field(1), 0);
    }

    // ---- undo

    private static void savedThoughNothingChanges() {
        HeaderSqueezer x = new HeaderSqueezer();
        undoable(x, 0, "setField(1, 0)", 0, () -> x.setField(1, 0));
        undoable(x, 0, "setStrides(1, 160)", 160, () -> x.setStrides(1, 160));
        undoable(x, 0, "setPolicy(0, 0)", 0, () -> x.setPolicy(0, 0));
        undoable(x, 0, "setReceiver(3, 1, 2)", 3, () -> x.setReceiver(3, 1, 2));
        undoable(x, 0, "deliverAll() of nothing", 0, x::deliverAll);
        undoable(x, 0, "carryOut() of no orders", 0, x::carryOut);
        x.setStrides(0, 0);
        undoable(x, 1, "advance() by 0", 0, x::advance);
        undoable(x, 1, "advance() by 0", 0, x::advance);
    }

    private static void eachUndoableSavesOne() {
        HeaderSqueezer x = new HeaderSqueezer();
        undoable(x, 0, "setField()", 0, () -> x.setField(0, 1));
        undoable(x, 0, "setStrides()", 160, () -> x.setStrides(2, 3));
        undoable(x, 0, "setPolicy()", 0, () -> x.setPolicy(2, 1));
        undoable(x, 0, "advance()", 1, x::advance);
        undoable(x, 0, "send()", 0, x::send);
        undoable(x, 0, "stream(20)", 20, () -> x.stream(20));
        undoable(x, 0, "setReceiver()", 3, () -> x.setReceiver(4, 5, 6));
        x.stream(3);
        undoable(x, 1, "deliver(0)", 0, () -> x.deliver(0));
        undoable(x, 1, "deliverAll()", 3, x::deliverAll);
        undoable(x, 1, "lose(2)", 2, () -> x.lose(2));
        undoable(x, 1, "copy(1)", 4, () -> x.copy(1));
        write(x, "n;s;d0;l0;c1;a0;");
        undoable(x, 1, "carryOut() of 6 orders", 6, x::carryOut);
        x.deliver(0);
        undoable(x, 2, "deliverBack(0)", 0, () -> x.deliverBack(0));
        undoable(x, 2, "loseBack(0)", 0, () -> x.loseBack(0));
    }

    private static void refusedSavesNothing() {
        HeaderSqueezer x = new HeaderSqueezer();
        refused(x, BOUNDS, "setField(4, 0)", () -> x.setField(4, 0));
        refused(x, ARGUMENT, "stream(0)", () -> x.stream(0));
        refused(x, BOUNDS, "deliver(0)", () -> x.deliver(0));
        due("carryOut() of d0;", run(x, "d0;"), -1000);
        due("carryOut() of d", run(x, "d"), -11);
        refused(x, STATE, "undo(), nothing is saved", x::undo);
        x.send();
        x.append('n');
        x.clearText();
        x.field(0);
        x.sizeWith(1, 1);
        x.reference();
        x.sent(0, 0);
        x.waiting(false);
        x.waitingAt(false, 0);
        x.highest();
        x.record(0, 0);
        x.records();
        x.numberFor(0);
        x.count(0);
        x.saved();
        x.lateness();
        x.meanSize();
        x.digest();
        due("undo() of send(), the only one that saves", x.undo(), 0);
        due("count(0)", x.count(0), 0);
    }

    private static void fourStatesAtMost() {
        HeaderSqueezer x = new HeaderSqueezer();
        for (int value = 1; value <= 4; value++) {
            x.setField(0, value);
        }
        for (int value = 3; value >= 0; value--) {
            due("undo() of four", x.undo(), value);
            due("field(0)", x.field(0), value);
        }
        refused(x, STATE, "undo() of the fifth", x::undo);
        for (int value = 1; value <= 11; value++) {
            x.setField(0, value);
        }
        for (int remaining = 3; remaining >= 0; remaining--) {
            due("undo() of eleven", x.undo(), remaining);
            due("field(0)", x.field(0), 7 + remaining);
        }
        refused(x, STATE, "undo() of the fifth of eleven", x::undo);
    }

    /** Going back and on again: what is dropped is always the oldest of those that remain. */
    private static void backAndOn() {
        HeaderSqueezer x = new HeaderSqueezer();
        for (int value = 1; value <= 5; value++) {
            x.setField(0, value);
        }
        due("undo()", x.undo(), 3);
        due("undo()", x.undo(), 2);
        for (int value = 13; value <= 15; value++) {
            x.setField(0, value);
        }
        int[] back = {14, 13, 3, 2};
        for (int i = 0; i < 4; i++) {
            due("undo()", x.undo(), 3 - i);
            due("field(0)", x.field(0), back[i]);
        }
        refused(x, STATE, "undo() of the fifth", x::undo);
    }

    private static void undoOfTheSender() {
        HeaderSqueezer x = new HeaderSqueezer();
        setHeader(x, 1, 2, 3, 4);
        x.advance();
        x.undo();
        int[] header = {1, 2, 3, 4};
        for (int field = 0; field < 4; field++) {
            due("field(" + field + ")", x.field(field), header[field]);
        }
        x.setStrides(9, 8);
        x.undo();
        due("advance() by the sequence stride before", x.advance(), 3);
        due("field(2) by the time stride before", x.field(2), 163);
        x.setPolicy(2, 1);
        x.undo();
        x.send();
        due("reference() by the confidence before", x.reference(), NONE);
        x.setPolicy(1, 1);
        x.setPolicy(2, 2);
        x.undo();
        x.send();
        due("form by the policy before", x.sent(1, 5), 1);
    }

    private static void undoOfIntervalAndPatience() {
        HeaderSqueezer x = new HeaderSqueezer();
        x.setReceiver(3, 2, 3);
        x.setReceiver(3, 1, 1);
        x.undo();
        x.stream(2);
        x.deliver(0);
        due("waiting(true) by the interval before", x.waiting(true), 0);
        x.deliver(0);
        due("waiting(true) by the interval before", x.waiting(true), 1);
        x.setPolicy(1, 1);
        x.stream(4);
        x.lose(0);
        x.deliver(0);
        x.deliver(0);
        due("requests by the patience before", x.count(6), 0);
        x.deliver(0);
        due("requests by the patience before", x.count(6), 1);
    }

    /** The packet that is sent anew has the number of one that was acknowledged. */
    private static void undoOfAScriptThatAcknowledged() {
        HeaderSqueezer x = with(1, 0);
        due("carryOut()", run(x, "s;d0;a0;"), 3);
        due("sent(0, 7)", x.sent(0, 7), 1);
        x.undo();
        x.send();
        due("sent(0, 7) of the packet sent anew", x.sent(0, 7), 0);
        due("reference()", x.reference(), NONE);
    }

    private static void undoOfRepair() {
        HeaderSqueezer x = withRepairRequested();
        x.deliverBack(0);
        due("sizeWith(1, 1)", x.sizeWith(1, 1), 12);
        x.undo();
        due("sizeWith(1, 1), the repair is no more due", x.sizeWith(1, 1), 3);
        x.deliverBack(0);
        x.send();
        due("form", x.sent(2, 5), 0);
        x.undo();
        due("sizeWith(1, 1), the repair is due again", x.sizeWith(1, 1), 12);
    }

    private static void undoOfRowAndReceiver() {
        HeaderSqueezer x = with(1, 1);
        x.send();
        x.stream(3);
        x.lose(0);
        x.deliver(0);
        x.undo();
        x.deliver(0);
        due("requests after one, undone and done again", x.count(6), 0);
        x.deliver(0);
        due("requests after two", x.count(6), 1);
        x.undo();
        due("requests after undo()", x.count(6), 0);
        dueLink(x, true);
        x.setReceiver(9, 9, 1);
        x.undo();
        due("setReceiver(), the depth is back", x.setReceiver(3, 1, 2), 3);
    }

    private static void undoOfRecordsAndHighest() {
        HeaderSqueezer x = new HeaderSqueezer();
        streamAndDeliver(x, 64);
        x.stream(1);
        x.deliver(0);
        due("record(0, 1) at H = 64", x.record(0, 1), NONE);
        x.undo();
        due("record(0, 1) at H = 63", x.record(0, 1), 1);
        due("record(64, 1) at H = 63", x.record(64, 1), NONE);
        due("highest()", x.highest(), 63);
        due("records()", x.records(), 64);
        dueLink(x, false, 64);
    }

    private static void undoOfAcknowledgment() {
        HeaderSqueezer x = with(1, 0);
        x.send();
        x.deliver(0);
        x.deliverBack(0);
        x.undo();
        due("sent(0, 7) after undo()", x.sent(0, 7), 0);
        due("reference()", x.reference(), NONE);
        x.deliverBack(0);
        x.undo();
        x.undo();
        x.undo();
        x.setField(0, 5);
        due("send() anew", x.send(), 0);
        dueHeader(x, 0, 5, 0, 0, 0, 12, 0, NONE, 0);
        due("deliver(0)", x.deliver(0), 0);
        due("record(0, 0)", x.record(0, 0), 5);
    }

    private static void undoOfCounts() {
        HeaderSqueezer x = with(1, 1);
        x.stream(5);
        x.copy(0);
        x.lose(2);
        x.deliverAll();
        dueCounts(x, 5, 2, 2, 0, 2, 1, 1, 1);
        due("lateness()", x.lateness(), 1);
        x.undo();
        dueCounts(x, 5, 0, 0, 0, 0, 0, 0, 1);
        due("lateness()", x.lateness(), 0);
        HeaderSqueezer y = with(1, 1);
        y.stream(3);
        due("saved()", y.saved(), 18 - 12 - 6 - 6);
        y.undo();
        dueCounts(y, 0, 0, 0, 0, 0, 0, 0, 0);
        due("saved()", y.saved(), 0);
        dueMean("meanSize()", y.meanSize(), 0.0);
    }

    private static void textOutlivesUndo() {
        HeaderSqueezer x = new HeaderSqueezer();
        write(x, "n;");
        x.advance();
        write(x, "n;n;");
        x.undo();
        due("carryOut() of the longer text", x.carryOut(), 2);
        x.undo();
        x.advance();
        x.clearText();
        x.undo();
        due("clearText() of the emptied text", x.clearText(), 0);
        write(x, "n;n;n;");
        due("carryOut()", x.carryOut(), 3);
        write(x, "q");
        x.undo();
        due("carryOut() of another text", x.carryOut(), -10);
    }

    // ---- exceptions

    private static void refusedInABusyState() {
        HeaderSqueezer x = busy();
        write(x, "n;q");
        refused(x, BOUNDS, "setField(-1, 0)", () -> x.setField(-1, 0));
        refused(x, ARGUMENT, "setField(0, 256)", () -> x.setField(0, 256));
        refused(x, ARGUMENT, "setStrides(1, 4096)", () -> x.setStrides(1, 4096));
        refused(x, ARGUMENT, "setPolicy(1, 16)", () -> x.setPolicy(1, 16));
        refused(x, ARGUMENT, "stream(21)", () -> x.stream(21));
        refused(x, STATE, "stream(20)", () -> x.stream(20));
        refused(x, BOUNDS, "field(4)", () -> x.field(4));
        refused(x, ARGUMENT, "sizeWith(3, 0)", () -> x.sizeWith(3, 0));
        refused(x, BOUNDS, "sent(9, 0)", () -> x.sent(9, 0));
        refused(x, ARGUMENT, "sent(8, 8)", () -> x.sent(8, 8));
        refused(x, BOUNDS, "deliver(20)", () -> x.deliver(20));
        refused(x, BOUNDS, "lose(20)", () -> x.lose(20));
        refused(x, BOUNDS, "copy(20)", () -> x.copy(20));
        refused(x, BOUNDS, "deliverBack(20)", () -> x.deliverBack(20));
        refused(x, BOUNDS, "loseBack(20)", () -> x.loseBack(20));
        refused(x, BOUNDS, "waitingAt(true, 20)", () -> x.waitingAt(true, 20));
        refused(x, BOUNDS, "waitingAt(false, 20)", () -> x.waitingAt(false, 20));
        refused(x, ARGUMENT, "setReceiver(3, 1, 9)", () -> x.setReceiver(3, 1, 9));
        refused(x, ARGUMENT, "record(1000, 0)", () -> x.record(1000, 0));
        refused(x, ARGUMENT, "numberFor(64)", () -> x.numberFor(64));
        refused(x, ARGUMENT, "count(8)", () -> x.count(8));
        refused(x, ARGUMENT, "append(128)", () -> x.append(128));
        due("carryOut(): the text is the same", x.carryOut(), -12);
    }

    private static void refusedInAFullState() {
        HeaderSqueezer x = busy();
        x.stream(20 - x.waiting(false));
        refused(x, STATE, "send()", x::send);
        refused(x, STATE, "copy(0)", () -> x.copy(0));
        refused(x, STATE, "stream(1)", () -> x.stream(1));
        write(x, "n;".repeat(50));
        refused(x, STATE, "append('n')", () -> x.append('n'));
        HeaderSqueezer y = new HeaderSqueezer();
        refused(y, STATE, "undo()", y::undo);
    }

    /** The saved states themselves stay as they are when calls are refused and scripts fail. */
    private static void refusedLeavesTheSavedStates() {
        HeaderSqueezer x = new HeaderSqueezer();
        for (int value = 1; value <= 6; value++) {
            x.setField(0, value);
            refused(x, ARGUMENT, "setField(0, 256)", () -> x.setField(0, 256));
            refused(x, BOUNDS, "deliver(0)", () -> x.deliver(0));
            refused(x, ARGUMENT, "setStrides(256, 0)", () -> x.setStrides(256, 0));
            due("carryOut() that fails", run(x, "n;s;d1;"), -1002);
        }
        for (int remaining = 3; remaining >= 0; remaining--) {
            due("undo()", x.undo(), remaining);
            due("field(0)", x.field(0), remaining + 2);
            due("field(1)", x.field(1), 0);
            due("count(0)", x.count(0), 0);
        }
    }

    private static void firstOfTheListed() {
        HeaderSqueezer x = new HeaderSqueezer();
        for (int bad : WRONG_INTS) {
            refused(x, BOUNDS, "setField(" + bad + ", " + bad + ")", () -> x.setField(bad, bad));
            refused(x, BOUNDS, "setField(4, " + bad + ")", () -> x.setField(4, bad));
            refused(x, BOUNDS, "sent(0, " + bad + ") of none", () -> x.sent(0, bad));
        }
        x.stream(20);
        refused(x, ARGUMENT, "stream(0) with a full link", () -> x.stream(0));
        refused(x, ARGUMENT, "stream(21) with a full link", () -> x.stream(21));
        refused(x, BOUNDS, "copy(20) in a full link", () -> x.copy(20));
        refused(x, BOUNDS, "copy(-1) in a full link", () -> x.copy(-1));
        refused(x, BOUNDS, "sent(20, 8)", () -> x.sent(20, 8));
        refused(x, BOUNDS, "sent(-1, -1)", () -> x.sent(-1, -1));
        refused(x, ARGUMENT, "sent(19, 8)", () -> x.sent(19, 8));
        write(x, "n".repeat(100));
        refused(x, ARGUMENT, "append(128) to a full text", () -> x.append(128));
        refused(x, ARGUMENT, "append(-1) to a full text", () -> x.append(-1));
        refused(x, STATE, "append(127) to a full text", () -> x.append(127));
    }

    private static void firstOfTheListedWith500() {
        HeaderSqueezer x = new HeaderSqueezer();
        streamAndDeliver(x, 500);
        refused(x, ARGUMENT, "stream(0) with 500 sent", () -> x.stream(0));
        refused(x, ARGUMENT, "stream(21) with 500 sent", () -> x.stream(21));
        refused(x, STATE, "stream(20) with 500 sent", () -> x.stream(20));
        refused(x, BOUNDS, "copy(0) of an empty link", () -> x.copy(0));
    }

    private static void text() {
        sentence("The text has at most 100 bytes.", ScriptSentences::hundredBytesAtMost);
        sentence("\"n\" as advance(); \"s\" as send(); \"d\", \"l\", \"c\", \"a\" and \"x\", each with a "
                + "number, as deliver(), lose(), copy(), deliverBack() and loseBack().",
                ScriptSentences::ordersAsCalls);
        sentence("for some a number of one or two digits, and a semicolon", () -> {
            oneOrTwoDigits();
            twoDigitsTellTheirNumber();
        });
        sentence("There are no spaces", ScriptSentences::noSpaces);
        sentence("and there may be no orders.", ScriptSentences::noOrders);
        sentence("The syntax error position is the index of the first byte that cannot stand where it "
                + "stands", () -> {
            firstByteThatCannotStand();
            firstBytes();
            bytesBehind("ns", ";");
            bytesBehind("dlcax", "0123456789");
        });
        sentence("(a third digit, too)", ScriptSentences::thirdDigit);
        sentence("or the length of the text if the text ends too early.", ScriptSentences::endsTooEarly);
    }

    private static void undo() {
        sentence("Each successful call of a method whose description says \"undoable\" saves the state "
                + "from before the call", () -> {
            eachUndoableSavesOne();
            refusedSavesNothing();
        });
        sentence("even if the call changes nothing", ScriptSentences::savedThoughNothingChanges);
        sentence("at most 4 states are saved, and the oldest is dropped first.", () -> {
            fourStatesAtMost();
            backAndOn();
        });
        sentence("The saved state contains everything", () -> {
            undoOfTheSender();
            undoOfIntervalAndPatience();
            undoOfAScriptThatAcknowledged();
            undoOfRepair();
            undoOfRowAndReceiver();
            undoOfRecordsAndHighest();
            undoOfAcknowledgment();
            undoOfCounts();
        });
        sentence("except the script text.", ScriptSentences::textOutlivesUndo);
    }

    private static void exceptions() {
        sentence("A call that throws an exception changes nothing.", () -> {
            refusedInABusyState();
            refusedInAFullState();
            refusedLeavesTheSavedStates();
        });
        sentence("If several exceptions apply, the one that is listed first is thrown.", () -> {
            firstOfTheListed();
            firstOfTheListedWith500();
        });
        sentence("NONE = -1", () -> due("NONE", HeaderSqueezer.NONE, -1));
    }

    public static void main(String[] args) throws IOException {
        readDocument();
        text();
        undo();
        exceptions();
        finishSentences();
    }
}
