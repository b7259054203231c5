// Boundaries of promises 31 to 38: characters, the full and the empty input, each end of each order,
// faults and refusals in texts, and the lines of text.
final class TextBoundaries {
    private static final String[] ORDERS = {"room 4", "echo 0 7", "singer 3 5", "enter 0 0", "out 0", "carry 0 0",
        "rent 0 0 4", "back 0 0", "sing 0", "night"};
    private static final String HALL = "room 9;room 8;echo 0 7;echo 0 2;singer 0 90;singer 9 3";

    private TextBoundaries() {
    }

    static void all() {
        codeOfCharacter();
        fullInput();
        appendInOrder();
        emptyInput();
        eachOrder();
        digits();
        numberOfDigits();
        repetitions();
        endsTooEarly();
        endsTooEarlyWhenFull();
        endsTooEarlyAfterLongerText();
        letterByLetter();
        signsBetween();
        allOrNone();
        numberOfOrders();
        orderAfterOrder();
        inputIsEmptyAfterwards();
        faultAheadOfRefusal();
        eachReasonAsCause();
        indexOfOrder();
        latestFaultPosition();
        reasonOfNothing();
        depthOfReason();
        causeOfReason();
        reasonInPlace();
        tellRoom();
        tellEcho();
        tellSinger();
        lineInPlace();
        characters();
    }

    private static void codeOfCharacter() {
        Doc.says(31, "Throws `IllegalArgumentException` if its code is not from 32 to 126");
        for (int code : new int[] {31, 127, 0, 10, 128, 255, 256 + 32, 0x8020, 0xFFFF}) {
            Due.onlyThrown("append of " + code, "room 1", Due.BAD_ARGUMENT, x -> x.append((char) code));
        }
        for (int code = 32; code <= 126; code++) {
            Due.same("append of " + code, 1, new EchoCouncil().append((char) code));
        }
    }

    private static EchoCouncil filled(int count) {
        return Due.type(new EchoCouncil(), "~".repeat(count));
    }

    private static void fullInput() {
        Doc.says(31, "Appends a character to the input. Returns the number of characters in the input.");
        Doc.says(31, "Throws `IllegalStateException` if the input contains 60 characters");
        EchoCouncil x = new EchoCouncil();
        for (int count = 1; count <= 60; count++) {
            Due.same("append of one more", count, x.append(' '));
            Due.same("the characters then", count, x.account(12));
        }
        Due.thrown("append of one too many", Due.BAD_STATE, () -> x.append(' '));
        Due.same("the characters stay", 60, x.account(12));
        Due.thrown("append of one too many again", Due.BAD_STATE, () -> x.append('~'));
        EchoCouncil y = Due.type(new EchoCouncil(), "night;night;night;night;night;night;night;night;night;room 1");
        Due.same("characters of a full text", 60, y.account(12));
        Due.thrown("append to a full text", Due.BAD_STATE, () -> y.append(';'));
        Due.same("run of the full text", 10, y.run());
        Due.same("append after run", 1, y.append(';'));
    }

    private static void appendInOrder() {
        EchoCouncil x = filled(60);
        Due.thrown("append: the code ahead of the full input, 31", Due.BAD_ARGUMENT, () -> x.append((char) 31));
        Due.thrown("append: the code ahead of the full input, 127", Due.BAD_ARGUMENT, () -> x.append((char) 127));
        Due.same("the characters stay", 60, x.account(12));
    }

    private static void fault(String text, int due) {
        EchoCouncil x = Due.type(Due.after("room 1"), text);
        String ahead = Due.state(x);
        Due.thrown("run of \"" + text + "\"", Due.BAD_ARGUMENT, () -> x.run());
        Due.same("the fault position of \"" + text + "\"", due, x.faultPosition());
        Due.same("the input after \"" + text + "\"", 0, x.account(12));
        Due.same("the state after \"" + text + "\"", ahead, Due.state(x));
        Due.same("the changes after \"" + text + "\"", 1, x.account(13));
        Due.same("the reason after \"" + text + "\"", "none", Due.reasons(x));
    }

    private static void noFault(String what, int orders, String text) {
        EchoCouncil x = Due.after("room 1;echo 0 1;singer 0 99;enter 0 0;rent 0 0 9");
        Due.same(what + ": run of \"" + text + "\"", orders, Due.run(x, text));
        Due.same(what + ": the fault position", -1, x.faultPosition());
    }

    private static void emptyInput() {
        Doc.says("Texts", "The form of a text of orders is text = order { \";\" order }");
        fault("", 0);
        EchoCouncil x = new EchoCouncil();
        Due.run(x, "night");
        Due.thrown("run of what an earlier run left", Due.BAD_ARGUMENT, () -> x.run());
        Due.same("its fault position", 0, x.faultPosition());
        Due.same("the nights", 1, x.account(4));
    }

    // What each order does is what its method does.
    private static void eachOrder() {
        Doc.says("Texts", "order = \"room \" digit | \"echo \" digit \" \" digit | \"singer \" digit \" \" number | \"enter \" digit \" \""
            + " digit | \"out \" digit | \"carry \" digit \" \" digit | \"rent \" digit \" \" digit \" \" digit | \"back \" digit \" \""
            + " digit | \"sing \" digit | \"night\"");
        Doc.says("Texts", "The orders are: room, one comes with its size; echo, one comes into a room with its strength;"
            + " singer, one comes, with the shyness and the breath; enter, a singer enters a room; out, a singer goes outside;"
            + " carry, an echo is carried to a room; rent, a singer rents an echo for verses; back, a singer gives an echo back;"
            + " sing, a singer sings a verse; night, a night goes by.");
        asCalls("room 4", x -> x.room(4));
        asCalls("echo 1 5", x -> x.echo(1, 5));
        asCalls("singer 4 32", x -> x.singer(4, 32));
        asCalls("enter 0 1", x -> x.enter(0, 1));
        asCalls("out 2", x -> x.out(2));
        asCalls("carry 1 0", x -> x.carry(1, 0));
        asCalls("rent 1 2 3", x -> x.rent(1, 2, 3));
        asCalls("back 2 0", x -> x.back(2, 0));
        asCalls("sing 2", x -> x.sing(2));
        asCalls("night", x -> x.night());
    }

    private static void asCalls(String order, Due.Action call) {
        String hall = "room 9;room 8;echo 0 7;echo 1 6;echo 1 5;singer 0 90;singer 1 80;singer 2 70;enter 2 0;rent 2 0 4;"
            + "sing 2;enter 1 1";
        EchoCouncil x = Due.after(hall);
        EchoCouncil y = Due.after(hall);
        String ahead = Due.state(x);
        Due.same("run of " + order, 1, Due.run(x, order));
        call.on(y);
        Due.same("the state after " + order, Due.all(y), Due.all(x));
        Due.same(order + " is different", false, ahead.equals(Due.state(x)));
    }

    // The signs next to 0 and 9 are no digits.
    private static void digits() {
        Doc.says("Texts", "and a digit is one from 0 to 9.");
        for (String order : ORDERS) {
            for (int index = 0; index < order.length(); index++) {
                if (Character.isDigit(order.charAt(index))) {
                    fault(order.substring(0, index) + "/" + order.substring(index + 1), index);
                    fault(order.substring(0, index) + ":" + order.substring(index + 1), index);
                    fault(order.substring(0, index) + " " + order.substring(index + 1), index);
                    fault(order.substring(0, index) + ";" + order.substring(index + 1), index);
                    fault(order.substring(0, index) + "a" + order.substring(index + 1), index);
                    digitsAt(order, index);
                }
            }
        }
    }

    // With each digit it is a text, done or refused.
    private static void digitsAt(String order, int index) {
        for (char digit = '0'; digit <= '9'; digit++) {
            EchoCouncil x = new EchoCouncil();
            String text = order.substring(0, index) + digit + order.substring(index + 1);
            boolean isFault = false;
            try {
                Due.run(x, text);
            } catch (UnsupportedOperationException refused) {
                Due.same("the reason of \"" + text + "\"", 12, x.reason(0, false));
            } catch (IllegalArgumentException fault) {
                isFault = true;
            }
            Due.same("a fault in \"" + text + "\"", false, isFault);
        }
    }

    private static void numberOfDigits() {
        Doc.says("Texts", "number = digit [ digit ]");
        Doc.says("Texts", "brackets that something can be left out, a bar one of several");
        String[] breaths = {"0", "00", "9", "09", "10", "99", "07"};
        int[] due = {0, 0, 9, 9, 10, 99, 7};
        for (int place = 0; place < breaths.length; place++) {
            EchoCouncil x = new EchoCouncil();
            Due.same("singer 0 " + breaths[place], 1, Due.run(x, "singer 0 " + breaths[place]));
            Due.same("the breath of " + breaths[place], due[place], x.singerOf(0, 1));
        }
        fault("singer 0 ", 9);
        fault("singer 0 100", 11);
        fault("singer 0 000", 11);
        fault("singer 0 1/", 10);
        fault("singer 0 1:", 10);
        fault("singer 00 1", 8);
        for (String order : ORDERS) {
            if (!order.startsWith("singer") && !order.equals("night")) {
                fault(order + "0", order.length());
            }
        }
    }

    private static void repetitions() {
        Doc.says("Texts", "where braces mean zero or more repetitions");
        noFault("no repetition", 1, "night");
        noFault("one repetition", 2, "night;night");
        noFault("the most repetitions", 10, "night;night;night;night;night;night;night;night;night;night");
        fault("night;night;night;night;night;night;night;night;night;night;", 60);
        fault("night;", 6);
        fault(";", 0);
        fault(";night", 0);
        fault("night;;night", 6);
        fault("night;night;", 12);
        fault("night; night", 6);
        fault("night ;night", 5);
        fault("night,night", 5);
        fault("nightnight", 5);
    }

    private static void endsTooEarly() {
        Doc.says("Texts", "The fault position of a text is the index of the first character that cannot continue such a text, or its"
            + " length if it ends too early;");
        for (String order : ORDERS) {
            for (int length = 1; length < order.length(); length++) {
                fault(order.substring(0, length), length);
                fault("night;" + order.substring(0, length), 6 + length);
                fault(order.substring(0, length) + "?", length);
                fault(order.substring(0, length) + ";", length);
                fault(order.substring(0, length) + ";night", length);
            }
            fault(order + "?", order.length());
            fault(order + " ", order.length());
        }
        fault("room 1;room 1;room 1;room 1;room 1;room 1;room 1;room 1;room", 60);
        fault("room 1;room 1;room 1;room 1;room 1;room 1;room 1;room 1;roo?", 59);
    }

    // The input is full, and the last order of it is only begun.
    private static void endsTooEarlyWhenFull() {
        for (String order : ORDERS) {
            for (int length = 1; length < order.length(); length++) {
                int left = 60 - length;
                int nights = 0;
                while ((left - 6 * nights) % 7 != 0) {
                    nights++;
                }
                String text = "night;".repeat(nights) + "room 1;".repeat((left - 6 * nights) / 7) + order.substring(0, length);
                Due.same("the length of a full input", 60, text.length());
                fault(text, 60);
            }
        }
    }

    // What stood in the input earlier cannot continue it.
    private static void endsTooEarlyAfterLongerText() {
        for (String order : ORDERS) {
            for (int length = 0; length < order.length(); length++) {
                EchoCouncil x = new EchoCouncil();
                Due.thrown("run of a longer text", Due.BAD_ARGUMENT, () -> Due.run(x, order + "9;night;?"));
                String begun = order.substring(0, length);
                Due.thrown("run of \"" + begun + "\" after it", Due.BAD_ARGUMENT, () -> Due.run(x, begun));
                Due.same("the fault position of \"" + begun + "\" after it", length, x.faultPosition());
            }
        }
        EchoCouncil x = new EchoCouncil();
        Due.same("two orders", 2, Due.run(x, "singer 0 55;night"));
        Due.same("one order where two stood", 1, Due.run(x, "singer 0 5"));
        Due.same("the breath of one digit where two stood", 5, x.singerOf(1, 1));
    }

    // At each letter the words that go on otherwise are no longer meant.
    private static void letterByLetter() {
        Doc.says("Texts", "words are looked at letter by letter.");
        fault("x", 0);
        fault("Room 1", 0);
        fault(" room 1", 0);
        fault("rx", 1);
        fault("ro", 2);
        fault("re", 2);
        fault("rom 1", 2);
        fault("reom 1", 2);
        fault("ex", 1);
        fault("ecter 0 0", 2);
        fault("enho 0 0", 2);
        fault("sx", 1);
        fault("sin", 3);
        fault("sing", 4);
        fault("singe", 5);
        fault("sing e", 5);
        fault("singe ", 5);
        fault("singer", 6);
        fault("singer0", 6);
        fault("room1", 4);
        fault("nights", 5);
        fault("nigth", 3);
        fault("Night", 0);
        fault("nighT", 4);
        fault("backs 0 0", 4);
        fault("oud 0", 2);
        fault("carrier 0 0", 4);
    }

    private static void signsBetween() {
        fault("echo 00", 6);
        fault("echo 0  0", 7);
        fault("echo 0;0", 6);
        fault("enter 0,0", 7);
        fault("carry 0-0", 7);
        fault("rent 0 0", 8);
        fault("rent 0 0;0", 8);
        fault("rent 00 0", 6);
        fault("back 0", 6);
        fault("singer 0", 8);
        fault("room  1", 5);
        fault("out", 3);
        fault("out-0", 3);
    }

    private static void allOrNone() {
        Doc.says(32, "Reads the input as a text and does its orders, one after the other, all or none.");
        Doc.says(32, "Throws `UnsupportedOperationException` if an order is refused, for the reasons for which its method is;"
            + " the reason 12 is kept");
        String done = "sing 0;night;room 3;out 0;echo 1 1;carry 1 1";
        Due.same("all of it", 6, Due.run(Due.after(HALL + ";enter 0 0;rent 0 0 2"), done));
        for (String refused : new String[] {";out 0", ";room 0", ";sing 9"}) {
            EchoCouncil x = Due.after(HALL + ";enter 0 0;rent 0 0 2");
            EchoCouncil twin = Due.after(HALL + ";enter 0 0;rent 0 0 2");
            Due.thrown("run with " + refused, Due.REFUSED, () -> Due.run(x, done + refused));
            Due.same("the reason", "12 6", Due.reasons(x).substring(0, 4));
            Due.type(x, "night");
            Due.type(twin, "night");
            Due.same("which is no change", 8, x.account(13));
            x.save();
            twin.save();
            Due.sameFromNowOn("run with " + refused, twin, x);
        }
    }

    private static void numberOfOrders() {
        Doc.says(32, "Returns the number of orders.");
        StringBuilder text = new StringBuilder("night");
        for (int orders = 1; orders <= 10; orders++) {
            EchoCouncil x = new EchoCouncil();
            Due.same("run of " + orders, orders, Due.run(x, text.toString()));
            Due.same("the nights of " + orders, orders, x.account(4));
            Due.same("it is one change", 1, x.account(13));
            text.append(";night");
        }
    }

    // An order is refused or not by what those ahead of it did.
    private static void orderAfterOrder() {
        Due.same("what comes first is there", 5, Due.run(new EchoCouncil(), "room 1;echo 0 1;singer 0 9;enter 0 0;rent 0 0 1"));
        EchoCouncil x = new EchoCouncil();
        Due.thrown("what comes later is not there", Due.REFUSED, () -> Due.run(x, "echo 0 1;room 1"));
        Due.same("the reasons of it", "12 0 2 0", Due.reasons(x));
        EchoCouncil y = Due.after("room 1;singer 0 1;enter 0 0");
        Due.thrown("sing twice with 1 breath", Due.REFUSED, () -> Due.run(y, "sing 0;sing 0"));
        Due.same("the reasons of it", "12 1 9 0", Due.reasons(y));
        Due.same("the breath stays", 1, y.singerOf(0, 1));
        Due.same("sing with a night between", 3, Due.run(y, "sing 0;night;sing 0"));
        EchoCouncil z = Due.after("room 1;room 1;room 1;room 1;room 1");
        Due.thrown("a sixth and a seventh room", Due.REFUSED, () -> Due.run(z, "room 1;room 1"));
        Due.same("the reasons of it", "12 1 1 6", Due.reasons(z));
        Due.same("a sixth room", 1, Due.run(z, "room 1"));
    }

    private static void inputIsEmptyAfterwards() {
        Doc.says(32, "The input is empty afterwards, also if an exception is thrown.");
        EchoCouncil x = new EchoCouncil();
        Due.run(x, "night;night");
        Due.same("the input after a text that was done", 0, x.account(12));
        Due.thrown("run of a fault", Due.BAD_ARGUMENT, () -> Due.run(x, "night;nigh"));
        Due.same("the input after a fault", 0, x.account(12));
        Due.thrown("run of a refused order", Due.REFUSED, () -> Due.run(x, "night;sing 0"));
        Due.same("the input after a refused order", 0, x.account(12));
        Due.same("a text after all that", 1, Due.run(x, "night"));
        Due.same("the nights", 3, x.account(4));
    }

    private static void faultAheadOfRefusal() {
        Doc.says(32, "Throws `IllegalArgumentException` if the text has a fault");
        fault("room 0;room 0;room", 18);
        fault("sing 9;night;", 13);
    }

    private static void eachReasonAsCause() {
        Doc.says("Refusals", "12, an order of a text is refused: its index, from 0, with the reason of the order as its cause.");
        String hall = HALL + ";enter 0 0;rent 0 0 2;singer 0 0;enter 2 1;room 1;singer 0 1;enter 3 2";
        String[] orders = {"room 0", "echo 3 0", "echo 0 0", "singer 0 9;singer 0 9;singer 0 9", "enter 6 7", "enter 0 7",
            "enter 0 0", "enter 0 2", "enter 1 0", "out 6", "out 1", "carry 2 9", "carry 0 9", "carry 0 0", "carry 0 1",
            "rent 6 8 0", "rent 0 8 0", "rent 0 1 0", "rent 2 0 9", "rent 2 1 9", "back 6 8", "back 0 8", "back 0 1",
            "back 1 0", "sing 6", "sing 1", "sing 2", "carry 1 2;rent 3 1 1"};
        String[] due = {"0 3 0", "0 2 3", "0 3 0", "2 1 6", "0 2 6", "0 2 7",
            "0 4 0", "0 5 1", "0 6 1", "0 2 6", "0 10 1", "0 2 2", "0 2 9", "0 4 0", "0 7 0",
            "0 2 6", "0 2 8", "0 3 0", "0 7 0", "0 8 0", "0 2 6", "0 2 8", "0 11 -1",
            "0 11 0", "0 2 6", "0 10 1", "0 9 0", "1 9 1"};
        for (int place = 0; place < orders.length; place++) {
            EchoCouncil x = Due.after(hall);
            String ahead = Due.all(x);
            String order = orders[place];
            Due.thrown("run of " + order, Due.REFUSED, () -> Due.run(x, order));
            Due.same("the reasons of " + order, "12 " + due[place], Due.reasons(x));
            Due.same("the state after " + order, ahead, Due.all(x));
        }
    }

    private static void indexOfOrder() {
        for (int index = 0; index <= 8; index++) {
            EchoCouncil x = new EchoCouncil();
            String nights = "night;".repeat(index);
            Due.thrown("run refused at " + index, Due.REFUSED, () -> Due.run(x, nights + "room 0"));
            Due.same("the reasons of it", "12 " + index + " 3 0", Due.reasons(x));
            Due.same("the nights", 0, x.account(4));
        }
        EchoCouncil x = new EchoCouncil();
        Due.thrown("run refused at the last of 10", Due.REFUSED, () -> Due.run(x, "night;night;night;night;night;night;night;night;night;out 0"));
        Due.same("the reasons of it", "12 9 2 0", Due.reasons(x));
        EchoCouncil y = new EchoCouncil();
        Due.thrown("run with two that would be refused", Due.REFUSED, () -> Due.run(y, "night;room 0;sing 3"));
        Due.same("the reasons are of the first", "12 1 3 0", Due.reasons(y));
    }

    private static void latestFaultPosition() {
        Doc.says(33, "Returns the fault position of the latest text that was read. Returns the fault position, or -1 if it had no fault"
            + " or nothing was read.");
        EchoCouncil x = new EchoCouncil();
        Due.same("when nothing was read", -1, x.faultPosition());
        Due.type(x, "?");
        Due.same("when the input was not read yet", -1, x.faultPosition());
        Due.thrown("run of a fault", Due.BAD_ARGUMENT, () -> x.run());
        Due.same("a fault at the first character", 0, x.faultPosition());
        Due.thrown("run of another fault", Due.BAD_ARGUMENT, () -> Due.run(x, "room 10"));
        Due.same("a fault behind it", 6, x.faultPosition());
        Due.type(x, "night");
        Due.same("the fault position ahead of run", 6, x.faultPosition());
        x.run();
        Due.same("a text without fault", -1, x.faultPosition());
        Due.thrown("run of a fault again", Due.BAD_ARGUMENT, () -> Due.run(x, "nig"));
        Due.thrown("run of a refused order", Due.REFUSED, () -> Due.run(x, "room 0"));
        Due.same("a refused text without fault", -1, x.faultPosition());
    }

    private static void reasonOfNothing() {
        Doc.says(34, "Throws `NoSuchElementException` if nothing was refused, or there is no cause");
        EchoCouncil x = new EchoCouncil();
        for (int depth = 0; depth <= 1; depth++) {
            int kept = depth;
            Due.thrown("reason(" + depth + ", false)", Due.NO_ELEMENT, () -> x.reason(kept, false));
            Due.thrown("reason(" + depth + ", true)", Due.NO_ELEMENT, () -> x.reason(kept, true));
        }
        x.room(1);
        Due.thrown("run of a fault", Due.BAD_ARGUMENT, () -> Due.run(x, "room"));
        Due.thrown("roomOf(1, 0)", Due.NO_INDEX, () -> x.roomOf(1, 0));
        Due.same("none after a change, a fault and another exception", "none", Due.reasons(x));
        Due.thrown("room(0)", Due.REFUSED, () -> x.room(0));
        Due.thrown("the cause of a reason without one", Due.NO_ELEMENT, () -> x.reason(1, false));
        Due.thrown("its detail", Due.NO_ELEMENT, () -> x.reason(1, true));
    }

    private static void depthOfReason() {
        Doc.says(34, "Throws `IllegalArgumentException` if the depth is not 0 or 1");
        for (int depth : new int[] {-1, 2, Integer.MIN_VALUE, Integer.MAX_VALUE}) {
            for (boolean isDetail : new boolean[] {false, true}) {
                Due.onlyThrown("reason(" + depth + ")", "room 1", Due.BAD_ARGUMENT, x -> x.reason(depth, isDetail));
                EchoCouncil x = new EchoCouncil();
                Due.thrown("reason(" + depth + ") of nothing", Due.BAD_ARGUMENT, () -> x.reason(depth, isDetail));
            }
        }
    }

    private static void causeOfReason() {
        Doc.says(34, "Returns a number of the reason that is kept, or of what is behind it. - `depth`: 0 for the reason, 1 for its"
            + " cause");
        Doc.says(34, "Returns the number.");
        EchoCouncil x = new EchoCouncil();
        Due.thrown("run of a refused order", Due.REFUSED, () -> Due.run(x, "night;night;echo 5 0"));
        Due.same("the reason", 12, x.reason(0, false));
        Due.same("its detail", 2, x.reason(0, true));
        Due.same("its cause", 2, x.reason(1, false));
        Due.same("the detail of its cause", 5, x.reason(1, true));
    }

    private static void reasonInPlace() {
        Doc.says("Exceptions", "If something is refused, its reason is kept, in place of the one before.");
        EchoCouncil x = new EchoCouncil();
        Due.thrown("room(0)", Due.REFUSED, () -> x.room(0));
        Due.thrown("out(3)", Due.REFUSED, () -> x.out(3));
        Due.same("the second in place of the first", "2 3 none", Due.reasons(x));
        Due.thrown("run", Due.REFUSED, () -> Due.run(x, "sing 5"));
        Due.same("one with a cause", "12 0 2 5", Due.reasons(x));
        Due.thrown("run again", Due.REFUSED, () -> Due.run(x, "night;room 0"));
        Due.same("another one with a cause", "12 1 3 0", Due.reasons(x));
        Due.thrown("room(10)", Due.REFUSED, () -> x.room(10));
        Due.same("one without a cause", "3 10 none", Due.reasons(x));
        Due.run(x, "night");
        x.room(1);
        Due.same("it stays by what is done", "3 10 none", Due.reasons(x));
    }

    private static void told(String due, int length, EchoCouncil x) {
        Due.same("the line", due, Due.line(x));
        Due.same("the length of " + due, due.length(), length);
    }

    private static void noLine(String what, Due.Action call) {
        Due.onlyThrown(what, "room 1;room 1;echo 1 1;echo 1 2;singer 0 1;singer 0 2", Due.NO_INDEX, call);
        Due.onlyThrown(what + " of none", "", Due.NO_INDEX, call);
    }

    private static void tellRoom() {
        Doc.says(35, "Writes a room as a line of text, in place of the line before: its number, \"[\" and its size, \"~\" and how damp"
            + " it is, and \"]\", and for each echo in it, by their numbers, its number, with \"*\" behind it if it is let, and for"
            + " each singer in it, by their numbers, \"s\" and the number; as in \"0[5~3]02*7s1s4\". Returns the length of the line.");
        Doc.says(35, "Throws `IndexOutOfBoundsException` if there is no such room");
        for (int room : new int[] {2, -1, 6, Integer.MIN_VALUE, Integer.MAX_VALUE}) {
            noLine("tellRoom(" + room + ")", x -> x.tellRoom(room));
        }
        EchoCouncil x = Due.after("room 1;room 9");
        told("1[9~0]", x.tellRoom(1), x);
        Due.does(x, "echo 1 5");
        told("1[9~0]0", x.tellRoom(1), x);
        Due.does(x, "singer 0 99;enter 0 1;rent 0 0 9");
        told("1[9~0]0*s0", x.tellRoom(1), x);
        Due.does(x, "out 0");
        told("1[9~0]0*", x.tellRoom(1), x);
        Due.does(x, "back 0 0;carry 0 0;enter 0 1;sing 0;sing 0;sing 0;sing 0;sing 0;sing 0;sing 0;sing 0;sing 0;sing 0");
        told("1[9~9]s0", x.tellRoom(1), x);
        told("0[1~0]0", x.tellRoom(0), x);
        EchoCouncil y = Due.after("room 5;room 9;echo 0 9;echo 1 9;echo 0 9;echo 1 9;echo 1 9;echo 1 9;echo 1 9;echo 0 9;"
            + "singer 0 9;singer 0 99;singer 0 9;singer 0 9;singer 0 9;singer 0 9;enter 4 0;enter 1 0;rent 1 2 9;sing 1;sing 1;sing 1");
        told("0[5~3]02*7s1s4", y.tellRoom(0), y);
        EchoCouncil z = Due.after("room 1;room 1;room 1;room 1;room 1;room 9;echo 5 1;echo 5 1;echo 5 1;echo 5 1;echo 5 1;echo 5 1;"
            + "echo 5 1;echo 5 1;singer 0 99;singer 0 99;singer 0 99;singer 0 99;singer 0 99;singer 0 99;enter 5 5;enter 4 5;"
            + "enter 3 5;enter 0 5;rent 5 7 9;rent 5 6 9;rent 5 5 9;rent 5 4 9;rent 5 3 9;rent 5 2 9;rent 5 1 9;rent 5 0 9");
        told("5[9~0]0*1*2*3*4*5*6*7*s0s3s4s5", z.tellRoom(5), z);
    }

    private static void tellEcho() {
        Doc.says(36, "Writes an echo as a line of text, in place of the line before: its number, \"^\" and its strength, \"@\" and its"
            + " room, and \"=\", the singer, \"/\" and the verses if it is let; as in \"2^7@0=1/5\". Returns the length of the line.");
        Doc.says(36, "Throws `IndexOutOfBoundsException` if there is no such echo");
        for (int echo : new int[] {2, -1, 8, Integer.MIN_VALUE, Integer.MAX_VALUE}) {
            noLine("tellEcho(" + echo + ")", x -> x.tellEcho(echo));
        }
        EchoCouncil x = Due.after("room 9;room 9;echo 0 1;echo 1 9;echo 0 7;singer 0 99;singer 0 99;enter 0 1;enter 1 0;rent 1 2 5");
        told("2^7@0=1/5", x.tellEcho(2), x);
        told("0^1@0", x.tellEcho(0), x);
        told("1^9@1", x.tellEcho(1), x);
        Due.does(x, "rent 0 1 1;rent 1 0 9");
        told("1^9@1=0/1", x.tellEcho(1), x);
        told("0^1@0=1/9", x.tellEcho(0), x);
        Due.does(x, "sing 0;back 1 0");
        told("1^9@1", x.tellEcho(1), x);
        told("0^1@0", x.tellEcho(0), x);
    }

    private static void tellSinger() {
        Doc.says(37, "Writes a singer as a line of text, in place of the line before: the number, \"!\" and the shyness, \"%\" and the"
            + " breath, and \"@\" and the room, if the singer is in one; as in \"1!3%20@0\". Returns the length of the line.");
        Doc.says(37, "Throws `IndexOutOfBoundsException` if there is no such singer");
        for (int singer : new int[] {2, -1, 6, Integer.MIN_VALUE, Integer.MAX_VALUE}) {
            noLine("tellSinger(" + singer + ")", x -> x.tellSinger(singer));
        }
        EchoCouncil x = Due.after("room 9;room 9;singer 9 99;singer 3 20;singer 0 0;singer 0 10;singer 0 9;enter 1 0;enter 0 1");
        told("1!3%20@0", x.tellSinger(1), x);
        told("0!9%99@1", x.tellSinger(0), x);
        told("2!0%0", x.tellSinger(2), x);
        told("3!0%10", x.tellSinger(3), x);
        told("4!0%9", x.tellSinger(4), x);
        x.out(1);
        told("1!3%20", x.tellSinger(1), x);
    }

    private static void lineInPlace() {
        EchoCouncil x = Due.after("room 9;echo 0 1;singer 0 99;enter 0 0;rent 0 0 9");
        told("0[9~0]0*s0", x.tellRoom(0), x);
        told("0!0%98@0", x.tellSinger(0), x);
        told("0^1@0=0/9", x.tellEcho(0), x);
        told("0[9~0]0*s0", x.tellRoom(0), x);
        x.sing(0);
        Due.same("the line stays as it was written", "0[9~0]0*s0", Due.line(x));
    }

    private static void characters() {
        Doc.says(38, "Returns a character of the line, which is empty at first. - `index`: the index, from 0 Returns the character.");
        Doc.says(38, "Throws `IndexOutOfBoundsException` if there is no such index");
        for (int index : new int[] {0, 1, -1, Integer.MIN_VALUE, Integer.MAX_VALUE}) {
            EchoCouncil x = new EchoCouncil();
            Due.thrown("character(" + index + ") of the empty line", Due.NO_INDEX, () -> x.character(index));
        }
        String orders = "room 5;echo 0 1";
        for (int index : new int[] {7, 8, -1, 1000, Integer.MIN_VALUE, Integer.MAX_VALUE}) {
            Due.onlyThrown("character(" + index + ") of a line of 6", orders, Due.NO_INDEX, x -> x.character(index));
        }
        EchoCouncil x = Due.after("room 5;echo 0 1;singer 0 9");
        x.tellRoom(0);
        String due = "0[5~0]0";
        for (int index = 0; index < due.length(); index++) {
            Due.same("character(" + index + ")", due.charAt(index), x.character(index));
        }
        Due.thrown("character behind the last", Due.NO_INDEX, () -> x.character(7));
        x.tellSinger(0);
        Due.same("the last character of a shorter line", '9', x.character(4));
        Due.thrown("character behind the last of a shorter line", Due.NO_INDEX, () -> x.character(5));
    }
}
