import java.util.regex.Matcher;
import java.util.regex.Pattern;

// Promises 31 to 34: the input, orders told in texts, their faults, and reasons.
public final class TextTests {
    private static final String DIGIT = "[0-9]";
    private static final String ORDER = "(room D|echo D D|singer D D{1,2}|enter D D|out D|carry D D|rent D D D|back D D|sing D|night)"
        .replace("D", DIGIT);
    // The form of the document, as a pattern: a beginning of a text is one that it still hits the end of.
    private static final Pattern TEXT = Pattern.compile(ORDER + "(;" + ORDER + ")*");

    private static long seed = 20261119;

    public static void main(String[] args) {
        append();
        runEachOrder();
        runOfMany();
        runRefused();
        runRefusedForEachReason();
        runWithFault();
        longestTexts();
        faultPosition();
        faultsOfBeginnings();
        faultsAfterLongerTexts();
        faultsOfFullInputs();
        faultsByPattern();
        reason();
        Due.end();
    }

    private static void append() {
        EchoCouncil x = new EchoCouncil();
        char[] bad = {0, 31, 127, 200, 9, 10, Character.MAX_VALUE};
        for (char character : bad) {
            Due.thrown("append of " + (int) character, Due.BAD_ARGUMENT, () -> x.append(character));
        }
        Due.same("characters after bad ones", 0, x.account(12));
        for (int count = 1; count <= 60; count++) {
            char character = (char) (count % 2 == 0 ? 32 : 126);
            Due.same("append", count, x.append(character));
        }
        Due.thrown("append to a full input", Due.BAD_STATE, () -> x.append('a'));
        Due.thrown("append of a bad one to a full input", Due.BAD_ARGUMENT, () -> x.append((char) 31));
        Due.same("characters", 60, x.account(12));
        Due.thrown("run of it", Due.BAD_ARGUMENT, () -> x.run());
        Due.same("append after run", 1, x.append('~'));
    }

    private static void runEachOrder() {
        EchoCouncil x = new EchoCouncil();
        String[] orders = {"room 5", "room 2", "echo 0 7", "singer 3 20", "singer 0 5", "enter 0 0", "rent 0 0 4", "sing 0", "enter 1 1", "out 1", "back 0 0", "carry 0 1", "night"};
        EchoCouncil y = new EchoCouncil();
        int[] answers = {y.room(5), y.room(2), y.echo(0, 7), y.singer(3, 20), y.singer(0, 5), y.enter(0, 0), y.rent(0, 0, 4), y.sing(0), y.enter(1, 1), y.out(1), y.back(0, 0), y.carry(0, 1), y.night()};
        for (String order : orders) {
            Due.same(order, 1, Due.run(x, order));
            Due.same("the input after it", 0, x.account(12));
        }
        Due.same("calls of as many methods", orders.length, answers.length);
        Due.same("the state after them", Due.all(y), Due.all(x));
    }

    private static void runOfMany() {
        EchoCouncil x = new EchoCouncil();
        Due.same("run of six", 6, Due.run(x, "room 3;echo 0 9;singer 0 50;enter 0 0;rent 0 0 9;sing 0"));
        Due.same("it is one change", 1, x.account(13));
        Due.same("its fault position", -1, x.faultPosition());
        Due.same("the tones", 9, x.account(7));
        Due.same("its undo", 0, x.undo());
        Due.same("the rooms then", 0, x.account(0));
        Due.same("singers with breath of two digits", 4, Due.run(x, "singer 9 99;singer 0 00;singer 1 07;singer 2 7"));
        Due.same("99", 99, x.singerOf(0, 1));
        Due.same("00", 0, x.singerOf(1, 1));
        Due.same("07", 7, x.singerOf(2, 1));
        Due.same("7", 7, x.singerOf(3, 1));
        Due.same("the shyness", 9, x.singerOf(0, 0));
    }

    private static void runRefused() {
        EchoCouncil x = Due.after("room 1;echo 0 5;singer 0 6;enter 0 0");
        String ahead = Due.all(x);
        Due.type(x, "rent 0 0 2;sing 0;night;sing 4;room 0");
        Due.thrown("run with a refused order", Due.REFUSED, () -> x.run());
        Due.same("the state, and the input", ahead, Due.all(x));
        Due.same("the reason", 12, x.reason(0, false));
        Due.same("which order", 3, x.reason(0, true));
        Due.same("its cause", 2, x.reason(1, false));
        Due.same("the detail of the cause", 4, x.reason(1, true));
        Due.same("the fault position", -1, x.faultPosition());
        Due.same("its undo is of the change before", 3, x.undo());
        Due.same("the reason stays", 12, x.reason(0, false));
        Due.refused("a later refusal has no cause", x, 10, 0, () -> x.sing(0));
    }

    private static void runRefusedForEachReason() {
        String hall = "room 1;room 2;echo 0 5;singer 0 9;singer 9 3;singer 0 3;enter 0 0;enter 2 1";
        String[] orders = {"room 0", "echo 2 1", "echo 0 0", "enter 3 0", "enter 0 2", "enter 0 0", "enter 1 0", "enter 1 1", "out 3", "out 1", "carry 1 0", "carry 0 2", "carry 0 0", "rent 3 0 1", "rent 0 1 1", "rent 0 0 0", "rent 2 0 1", "back 3 0", "back 0 1", "back 0 0", "sing 3", "sing 1"};
        int[] causes = {3, 2, 3, 2, 2, 4, 5, 6, 2, 10, 2, 2, 4, 2, 2, 3, 8, 2, 2, 11, 2, 10};
        int[] details = {0, 2, 0, 3, 2, 0, 1, 1, 3, 1, 1, 2, 0, 3, 1, 0, 0, 3, 1, -1, 3, 1};
        for (int place = 0; place < orders.length; place++) {
            EchoCouncil x = Due.after(hall);
            String ahead = Due.all(x);
            Due.type(x, "night;" + orders[place]);
            Due.thrown(orders[place], Due.REFUSED, () -> x.run());
            Due.same(orders[place] + ", the state", ahead, Due.all(x));
            Due.same(orders[place] + ", the order", 1, x.reason(0, true));
            Due.same(orders[place] + ", the cause", causes[place], x.reason(1, false));
            Due.same(orders[place] + ", its detail", details[place], x.reason(1, true));
        }
        EchoCouncil x = Due.after(hall);
        Due.type(x, "rent 0 0 1;carry 0 1");
        Due.thrown("carry what was let in the text", Due.REFUSED, () -> x.run());
        Due.same("its cause", 7, x.reason(1, false));
        Due.same("the detail of the cause", 0, x.reason(1, true));
        Due.type(x, "sing 2;sing 2;sing 2;sing 2;room 1");
        Due.thrown("sing too often in a text", Due.REFUSED, () -> x.run());
        Due.same("which order", 3, x.reason(0, true));
        Due.same("its cause", 9, x.reason(1, false));
        Due.type(x, "room 1;room 1;room 1;room 1;room 1");
        Due.thrown("a seventh room in a text", Due.REFUSED, () -> x.run());
        Due.same("which order", 4, x.reason(0, true));
        Due.same("its cause", 1, x.reason(1, false));
        Due.same("the detail of the cause", 6, x.reason(1, true));
    }

    private static void fault(String text, int due) {
        EchoCouncil x = new EchoCouncil();
        Due.type(x, text);
        Due.thrown("run of \"" + text + "\"", Due.BAD_ARGUMENT, () -> x.run());
        Due.same("the fault position of \"" + text + "\"", due, x.faultPosition());
        Due.same("the input after \"" + text + "\"", 0, x.account(12));
        Due.same("the changes after \"" + text + "\"", 0, x.account(13));
        Due.thrown("the reason after \"" + text + "\"", Due.NO_ELEMENT, () -> x.reason(0, false));
    }

    private static void runWithFault() {
        EchoCouncil x = Due.after("room 1");
        String ahead = Due.all(x);
        Due.type(x, "sing 0;night;sing a");
        Due.thrown("a fault behind a refused order", Due.BAD_ARGUMENT, () -> x.run());
        Due.same("the fault position", 18, x.faultPosition());
        Due.same("the state", ahead, Due.all(x));
        Due.thrown("nothing is refused by it", Due.NO_ELEMENT, () -> x.reason(0, false));
    }

    private static void longestTexts() {
        String nights = "night;night;night;night;night;night;night;night;night;night";
        EchoCouncil x = new EchoCouncil();
        Due.same("ten orders", 10, Due.run(x, nights));
        Due.same("ten nights", 10, x.account(4));
        Due.same("of one change", 1, x.account(13));
        fault(nights + ";", 60);
        fault(nights + " ", 59);
        fault("singer 1 12;singer 1 12;singer 1 12;singer 1 12;singer 1 12;", 60);
    }

    private static void faultPosition() {
        fault("", 0);
        fault(";", 0);
        fault(" ", 0);
        fault("Room 1", 0);
        fault("x", 0);
        fault("r", 1);
        fault("ra", 1);
        fault("ro", 2);
        fault("re", 2);
        fault("roam 1", 2);
        fault("rento 1", 4);
        fault("room", 4);
        fault("room ", 5);
        fault("room  1", 5);
        fault("room a", 5);
        fault("room 12", 6);
        fault("room 1 ", 6);
        fault("room 1;", 7);
        fault("room 1;;", 7);
        fault("room 1; night", 7);
        fault("room -1", 5);
        fault("e", 1);
        fault("ec", 2);
        fault("ex", 1);
        fault("echo 1", 6);
        fault("echo 1 ", 7);
        fault("echo 1 12", 8);
        fault("echo 12", 6);
        fault("enter 1,2", 7);
        fault("sing", 4);
        fault("singe 1", 5);
        fault("singing", 4);
        fault("sing 01", 6);
        fault("singer 10 1", 8);
        fault("singer 1 ", 9);
        fault("singer 1 100", 11);
        fault("singer 1 1 ", 10);
        fault("singer 1 11 ", 11);
        fault("singer 1 a", 9);
        fault("singer 1 1a", 10);
        fault("out 1 1", 5);
        fault("out", 3);
        fault("carry 1", 7);
        fault("rent 1 1", 8);
        fault("rent 1 1 1 1", 10);
        fault("rent 1 1 11", 10);
        fault("back 1", 6);
        fault("night ", 5);
        fault("night 1", 5);
        fault("nigh", 4);
        fault("nights", 5);
        fault("night;nigh;", 10);
        fault("night,night", 5);
        EchoCouncil x = new EchoCouncil();
        Due.same("faultPosition at first", -1, x.faultPosition());
        Due.type(x, "roo");
        Due.same("faultPosition of what was not read yet", -1, x.faultPosition());
        Due.thrown("run", Due.BAD_ARGUMENT, () -> x.run());
        Due.same("faultPosition", 3, x.faultPosition());
        Due.type(x, "sing 0");
        Due.same("faultPosition ahead of the next run", 3, x.faultPosition());
        Due.thrown("run of a refused order", Due.REFUSED, () -> x.run());
        Due.same("faultPosition of a text without fault", -1, x.faultPosition());
    }

    // Each beginning of a text that is not a text itself ends too early.
    private static void faultsOfBeginnings() {
        String[] texts = {"room 1;echo 0 1;enter 0 0;out 0;carry 0 0", "rent 0 0 1;back 0 0;sing 0;night;singer 0 0", "singer 9 50;echo 9 9"};
        for (String text : texts) {
            for (int length = 0; length < text.length(); length++) {
                String beginning = text.substring(0, length);
                if (!TEXT.matcher(beginning).matches()) {
                    fault(beginning, length);
                }
                fault(beginning + "?", length);
            }
        }
    }

    private static final String[] EACH_ORDER = {"room 1", "echo 0 1", "singer 9 50", "enter 0 0", "out 0", "carry 0 0", "rent 0 0 1", "back 0 0", "sing 0", "night"};

    // What an earlier text left behind the end of the input is no part of it.
    private static void faultsAfterLongerTexts() {
        for (String order : EACH_ORDER) {
            for (int length = 0; length < order.length(); length++) {
                String beginning = order.substring(0, length);
                if (TEXT.matcher(beginning).matches()) {
                    continue;
                }
                EchoCouncil x = new EchoCouncil();
                Due.type(x, order + ";night;x");
                Due.thrown("run of a longer text", Due.BAD_ARGUMENT, () -> x.run());
                Due.type(x, beginning);
                Due.thrown("run of \"" + beginning + "\" after a longer text", Due.BAD_ARGUMENT, () -> x.run());
                Due.same("the fault position of \"" + beginning + "\" after a longer text", length, x.faultPosition());
            }
        }
        EchoCouncil x = new EchoCouncil();
        Due.same("two orders", 2, Due.run(x, "singer 0 55;night"));
        Due.same("one order where two stood", 1, Due.run(x, "singer 0 5"));
        Due.same("the breath of one digit where two stood", 5, x.singerOf(1, 1));
    }

    // An order begun at the end of an input that is full.
    private static void faultsOfFullInputs() {
        for (String order : EACH_ORDER) {
            for (int length = 0; length <= order.length(); length++) {
                StringBuilder text = new StringBuilder();
                int sixes = 0;
                while ((60 - length - 6 * sixes) % 7 != 0) {
                    sixes++;
                }
                text.append("night;".repeat(sixes));
                text.append("room 1;".repeat((60 - length - 6 * sixes) / 7));
                text.append(order, 0, length);
                Due.same("the length of \"" + text + "\"", 60, text.length());
                int due = faultByPattern(text.toString());
                if (due != -1) {
                    fault(text.toString(), 60);
                } else {
                    Due.same("the full input ends an order", true, length >= order.length() - 1);
                }
            }
        }
    }

    private static int faultByPattern(String text) {
        if (TEXT.matcher(text).matches()) {
            return -1;
        }
        for (int length = 1; length <= text.length(); length++) {
            Matcher matcher = TEXT.matcher(text.substring(0, length));
            if (!matcher.matches() && !matcher.hitEnd()) {
                return length - 1;
            }
        }
        return text.length();
    }

    private static int random(int bound) {
        seed = (seed * 6364136223846793005L + 1442695040888963407L);
        return (int) ((seed >>> 33) % bound);
    }

    private static String randomOrder() {
        String[] forms = {"room D", "echo D D", "singer D D", "singer D DD", "enter D D", "out D", "carry D D", "rent D D D", "back D D", "sing D", "night"};
        StringBuilder order = new StringBuilder(forms[random(forms.length)]);
        for (int index = 0; index < order.length(); index++) {
            if (order.charAt(index) == 'D') {
                order.setCharAt(index, (char) ('0' + random(10)));
            }
        }
        return order.toString();
    }

    private static String randomText() {
        StringBuilder text = new StringBuilder(randomOrder());
        int more = random(5);
        for (int order = 0; order < more; order++) {
            text.append(';').append(randomOrder());
        }
        String signs = "; 0159abcdeghiklmnorstuxy~";
        int faults = random(3);
        for (int fault = 0; fault < faults; fault++) {
            int index = random(text.length());
            char sign = signs.charAt(random(signs.length()));
            int way = random(3);
            if (way == 0) {
                text.setCharAt(index, sign);
            } else if (way == 1) {
                text.insert(index, sign);
            } else if (text.length() > 1) {
                text.deleteCharAt(index);
            }
        }
        return text.length() > 60 ? text.substring(0, 60) : text.toString();
    }

    private static void faultsByPattern() {
        for (int count = 0; count < 20000; count++) {
            String text = randomText();
            EchoCouncil x = Due.type(new EchoCouncil(), text);
            int due = faultByPattern(text);
            String outcome = "done";
            try {
                Due.same("orders of \"" + text + "\"", text.split(";").length, x.run());
            } catch (IllegalArgumentException fault) {
                outcome = "fault";
            } catch (UnsupportedOperationException refusal) {
                outcome = "refused";
            }
            Due.same("whether \"" + text + "\" has a fault", due != -1, outcome.equals("fault"));
            Due.same("the fault position of \"" + text + "\"", due, x.faultPosition());
        }
    }

    private static void reason() {
        EchoCouncil x = new EchoCouncil();
        Due.thrown("reason(0, false) of nothing", Due.NO_ELEMENT, () -> x.reason(0, false));
        Due.thrown("reason(0, true) of nothing", Due.NO_ELEMENT, () -> x.reason(0, true));
        Due.thrown("reason(1, false) of nothing", Due.NO_ELEMENT, () -> x.reason(1, false));
        Due.thrown("reason(2, false) of nothing", Due.BAD_ARGUMENT, () -> x.reason(2, false));
        Due.thrown("reason(-1, true) of nothing", Due.BAD_ARGUMENT, () -> x.reason(-1, true));
        Due.thrown("room(77)", Due.REFUSED, () -> x.room(77));
        Due.same("its reason", 3, x.reason(0, false));
        Due.same("its detail", 77, x.reason(0, true));
        Due.thrown("its cause", Due.NO_ELEMENT, () -> x.reason(1, false));
        Due.thrown("the detail of its cause", Due.NO_ELEMENT, () -> x.reason(1, true));
        Due.thrown("reason(2, false)", Due.BAD_ARGUMENT, () -> x.reason(2, false));
        x.room(7);
        Due.same("the reason stays", 77, x.reason(0, true));
        x.undo();
        Due.same("the reason stays when a change is undone", 77, x.reason(0, true));
        Due.thrown("roomOf(0, 0)", Due.NO_INDEX, () -> x.roomOf(0, 0));
        Due.same("the reason stays by another exception", 77, x.reason(0, true));
        Due.type(x, "night;sing 5");
        Due.thrown("run", Due.REFUSED, () -> x.run());
        Due.same("the reason in its place", 12, x.reason(0, false));
        Due.same("its detail", 1, x.reason(0, true));
        Due.same("its cause", 2, x.reason(1, false));
        Due.same("the detail of its cause", 5, x.reason(1, true));
        x.room(1);
        x.undo();
        x.save();
        x.restore();
        Due.same("the cause stays", 5, x.reason(1, true));
        Due.thrown("sing(3)", Due.REFUSED, () -> x.sing(3));
        Due.same("a reason in place of it", 3, x.reason(0, true));
        Due.thrown("it has no cause", Due.NO_ELEMENT, () -> x.reason(1, false));
    }
}
