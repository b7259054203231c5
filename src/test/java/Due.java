import java.util.NoSuchElementException;
import java.util.Objects;

// What the tests share: answers that are due, exceptions that are due, and short ways to a council.
final class Due {
    interface Call {
        Object answer();
    }

    static final Class<?> REFUSED = UnsupportedOperationException.class;
    static final Class<?> NO_INDEX = IndexOutOfBoundsException.class;
    static final Class<?> NO_ELEMENT = NoSuchElementException.class;
    static final Class<?> BAD_ARGUMENT = IllegalArgumentException.class;
    static final Class<?> BAD_STATE = IllegalStateException.class;
    static final Class<?> BAD_ARITHMETIC = ArithmeticException.class;

    private static int checked = 0;
    private static int wrong = 0;

    private Due() {
    }

    static void same(String what, Object want, Object got) {
        checked++;
        if (!Objects.equals(want, got)) {
            wrong++;
            System.out.println(what + ": due is " + want + ", but it is " + got);
        }
    }

    // Exactly this class: one below it would come from the machine.
    static void thrown(String what, Class<?> want, Call call) {
        Object got;
        try {
            got = call.answer();
        } catch (RuntimeException exception) {
            got = exception.getClass();
        }
        same(what, want, got);
    }

    // The call is refused for this reason, which is kept, without a cause.
    static void refused(String what, EchoCouncil x, int number, int detail, Call call) {
        thrown(what, REFUSED, call);
        same(what + ", its reason", number, x.reason(0, false));
        same(what + ", its detail", detail, x.reason(0, true));
        thrown(what + ", its cause", NO_ELEMENT, () -> x.reason(1, false));
    }

    interface Action {
        Object on(EchoCouncil x);
    }

    // The call throws exactly this, and all that can be asked is the same then, now and later.
    static void onlyThrown(String what, String orders, Class<?> want, Action call) {
        EchoCouncil x = used(orders);
        EchoCouncil twin = used(orders);
        thrown(what, want, () -> call.on(x));
        same(what + ", the reason", reasons(twin), reasons(x));
        sameFromNowOn(what, twin, x);
    }

    // The call is refused for this reason; nothing but the reason is different then, now and later.
    static void onlyRefused(String what, String orders, int number, int detail, Action call) {
        EchoCouncil x = used(orders);
        EchoCouncil twin = used(orders);
        refused(what, x, number, detail, () -> call.on(x));
        sameFromNowOn(what, twin, x);
    }

    // A council after these orders, of which the rest is used too: saved, refused with a cause, with
    // a fault, a line of text and an input.
    static EchoCouncil used(String orders) {
        EchoCouncil x = new EchoCouncil();
        run(x, "night;room 7;night");
        x.save();
        x.tellRoom(0);
        x.undo();
        if (!orders.isEmpty()) {
            does(x, orders);
        }
        thrown("a refused run", REFUSED, () -> run(x, "night;room 0"));
        thrown("a run of a fault", BAD_ARGUMENT, () -> run(x, "nigh"));
        return type(x, "night;night");
    }

    static void sameFromNowOn(String what, EchoCouncil twin, EchoCouncil x) {
        sameNow(what, twin, x);
        same(what + ", run of its input", twin.run(), x.run());
        sameNow(what + ", after run", twin, x);
        for (int left = twin.account(13); left > 0; left--) {
            same(what + ", undo", twin.undo(), x.undo());
            sameNow(what + ", after undo", twin, x);
        }
        thrown(what + ", undo of no more", BAD_STATE, () -> x.undo());
        same(what + ", restore", twin.restore(), x.restore());
        sameNow(what + ", after restore", twin, x);
    }

    static void sameNow(String what, EchoCouncil twin, EchoCouncil x) {
        same(what + ", the state", all(twin), all(x));
        same(what + ", the fault position", twin.faultPosition(), x.faultPosition());
        same(what + ", the line", line(twin), line(x));
    }

    // The reason that is kept and its cause, with their details, or "none" where there is none.
    static String reasons(EchoCouncil x) {
        return reason(x, 0) + (reason(x, 0).equals("none") ? "" : " " + reason(x, 1));
    }

    private static String reason(EchoCouncil x, int depth) {
        try {
            return x.reason(depth, false) + " " + x.reason(depth, true);
        } catch (NoSuchElementException none) {
            return "none";
        }
    }

    static EchoCouncil type(EchoCouncil x, String text) {
        for (int index = 0; index < text.length(); index++) {
            x.append(text.charAt(index));
        }
        return x;
    }

    static int run(EchoCouncil x, String text) {
        return type(x, text).run();
    }

    // Does orders one by one, as more than a text can hold; none of them must be refused.
    static EchoCouncil does(EchoCouncil x, String orders) {
        for (String order : orders.split(";")) {
            same(order, 1, run(x, order));
        }
        return x;
    }

    static EchoCouncil after(String orders) {
        return does(new EchoCouncil(), orders);
    }

    static String line(EchoCouncil x) {
        StringBuilder line = new StringBuilder();
        try {
            while (line.length() < 1000) {
                line.append(x.character(line.length()));
            }
        } catch (IndexOutOfBoundsException end) {
            return line.toString();
        }
        return "a line without an end";
    }

    // All that can be asked without a change, in one text; but the line, which it writes.
    static String all(EchoCouncil x) {
        StringBuilder all = new StringBuilder();
        for (int what = 0; what <= 13; what++) {
            all.append(x.account(what)).append(what == 11 ? " | " : " ");
        }
        numbers(all, "room", x.account(0), 5, (room, what) -> x.roomOf(room, what));
        numbers(all, "echo", x.account(1), 4, (echo, what) -> x.echoOf(echo, what));
        numbers(all, "singer", x.account(2), 6, (singer, what) -> x.singerOf(singer, what));
        return all.toString();
    }

    // The same without the characters in the input and the changes that can be undone.
    static String state(EchoCouncil x) {
        String all = all(x);
        int bar = all.indexOf('|');
        return all.substring(0, bar) + all.substring(all.indexOf('\n'));
    }

    interface Asked {
        int answer(int which, int what);
    }

    private static void numbers(StringBuilder all, String name, int count, int last, Asked asked) {
        for (int which = 0; which < count; which++) {
            all.append('\n').append(name).append(which);
            for (int what = 0; what <= last; what++) {
                all.append(' ').append(asked.answer(which, what));
            }
        }
        all.append('\n');
    }

    static void end() {
        System.out.println(checked + " answers looked at, " + wrong + " wrong");
        if (wrong != 0 || checked == 0) {
            System.exit(1);
        }
    }
}
