import java.util.ArrayList;
import java.util.List;

// Boundaries of promises 12 to 30: the first and last of each number, none at all, and ties.
final class QuestionBoundaries {
    private static final int LEAST = Integer.MIN_VALUE;
    private static final int GREATEST = Integer.MAX_VALUE;
    // Two of each kind. What is not there: 2, and the numbers around it and far off.
    private static final String PAIR = "room 9;room 8;echo 1 5;echo 0 6;singer 1 40;singer 0 50;enter 1 0;rent 1 1 4";
    // As many of each kind as there can be; the last singer has the last echo in the last room.
    private static final String FULL = "room 1;room 2;room 3;room 4;room 5;room 9;echo 0 1;echo 1 2;echo 2 3;echo 3 4;echo 4 5;"
        + "echo 5 6;echo 5 7;echo 5 8;singer 0 50;singer 1 60;singer 0 70;singer 0 80;singer 0 90;singer 0 99;enter 5 5;enter 4 5;"
        + "enter 3 5;enter 2 5;enter 1 4;rent 5 7 9;rent 5 6 2;rent 4 5 1;rent 1 4 3;sing 5;sing 4";
    private static final int[] NOT_THERE = {2, -1, 3, 6, 8, LEAST, GREATEST};

    private QuestionBoundaries() {
    }

    private interface Numbered {
        Object of(EchoCouncil x, int number);
    }

    // There are two of the kind that the call is about, or none at all, or as many as can be.
    private static void noIndex(String what, int most, Numbered call) {
        for (int number : NOT_THERE) {
            Due.onlyThrown(what + " of " + number, PAIR, Due.NO_INDEX, x -> call.of(x, number));
        }
        for (int number : new int[] {0, -1, LEAST, GREATEST}) {
            Due.onlyThrown(what + " of " + number + " of none", "", Due.NO_INDEX, x -> call.of(x, number));
        }
        for (int number : new int[] {most, -1, LEAST, GREATEST}) {
            Due.onlyThrown(what + " of " + number + " of " + most, FULL, Due.NO_INDEX, x -> call.of(x, number));
        }
    }

    private static void badArgument(String what, int most, Numbered call) {
        for (int number : new int[] {most + 1, -1, LEAST, GREATEST}) {
            Due.onlyThrown(what + " with " + number, PAIR, Due.BAD_ARGUMENT, x -> call.of(x, number));
        }
    }

    private static void noPlace(String what, int most, Numbered call) {
        for (int place : new int[] {2, -1, LEAST, GREATEST}) {
            Due.onlyThrown(what + ", place " + place, PAIR, Due.NO_ELEMENT, x -> call.of(x, place));
        }
        for (int place : new int[] {0, -1, LEAST, GREATEST}) {
            Due.onlyThrown(what + " of none, place " + place, "", Due.NO_ELEMENT, x -> call.of(x, place));
        }
        for (int place : new int[] {most, -1, LEAST, GREATEST}) {
            Due.onlyThrown(what + " of " + most + ", place " + place, FULL, Due.NO_ELEMENT, x -> call.of(x, place));
        }
    }

    static void all() {
        roomOf();
        roomOfNumbers();
        echoOf();
        echoOfNumbers();
        singerOf();
        singerOfNumbers();
        tones();
        tonesThrown();
        verses();
        versesOfSeveral();
        versesOnlyThisSinger();
        versesThrown();
        would();
        bestRoom();
        canEnter();
        canRent();
        backFor();
        others();
        free();
        dryIn();
        dampest();
        dampestOfEqual();
        ranked();
        rankedOfEqual();
        strongest();
        isTold();
        fullCouncil();
    }

    private static void roomOf() {
        Doc.says(12, "Throws `IndexOutOfBoundsException` if there is no such room");
        Doc.says(12, "Throws `IllegalArgumentException` if what is not 0 to 5");
        noIndex("roomOf", 6, (x, room) -> x.roomOf(room, 0));
        badArgument("roomOf", 5, (x, what) -> x.roomOf(1, what));
        Doc.says("Exceptions", "If several conditions of a method are fulfilled, the one that is listed first determines the exception.");
        Due.onlyThrown("roomOf: the room ahead of what", PAIR, Due.NO_INDEX, x -> x.roomOf(2, 6));
    }

    private static void roomOfNumbers() {
        Doc.says(12, "Returns a number of a room. - `what`: 0 for its size, 1 for how damp it is, 2 for the singers in it,"
            + " 3 for the echoes in it, 4 for those of them that are let, 5 for the verses sung in it so far Returns the number.");
        EchoCouncil x = Due.after(PAIR + ";enter 0 0;sing 0;sing 1;echo 0 3;echo 0 3");
        int[][] due = {{9, 2, 2, 3, 1, 2}, {8, 0, 0, 1, 0, 0}};
        for (int room = 0; room <= 1; room++) {
            for (int what = 0; what <= 5; what++) {
                Due.same("roomOf(" + room + ", " + what + ")", due[room][what], x.roomOf(room, what));
            }
        }
        Due.does(x, "out 0;out 1;night");
        Due.same("an echo counts as let when its singer is gone", 1, x.roomOf(0, 4));
        Due.same("verses stay when it gets dry", 2, x.roomOf(0, 5));
        Due.same("singers in it when all left", 0, x.roomOf(0, 2));
    }

    private static void echoOf() {
        Doc.says(13, "Throws `IndexOutOfBoundsException` if there is no such echo");
        Doc.says(13, "Throws `IllegalArgumentException` if what is not 0 to 4");
        noIndex("echoOf", 8, (x, echo) -> x.echoOf(echo, 0));
        badArgument("echoOf", 4, (x, what) -> x.echoOf(1, what));
        Due.onlyThrown("echoOf: the echo ahead of what", PAIR, Due.NO_INDEX, x -> x.echoOf(2, 5));
    }

    private static void echoOfNumbers() {
        Doc.says(13, "Returns a number of an echo. - `what`: 0 for its room, 1 for its strength, 2 for the singer to whom it is"
            + " let, -1 for nobody, 3 for the verses of the letting yet, 0 without one, 4 for the tones that it returned so far"
            + " Returns the number.");
        EchoCouncil x = Due.after(PAIR + ";sing 1;sing 1");
        int[][] due = {{1, 5, -1, 0, 0}, {0, 6, 1, 2, 11}};
        for (int echo = 0; echo <= 1; echo++) {
            for (int what = 0; what <= 4; what++) {
                Due.same("echoOf(" + echo + ", " + what + ")", due[echo][what], x.echoOf(echo, what));
            }
        }
        x.back(1, 1);
        Due.same("nobody after back", -1, x.echoOf(1, 2));
        Due.same("no verses after back", 0, x.echoOf(1, 3));
        Due.same("the tones stay after back", 11, x.echoOf(1, 4));
        Due.does(x, "rent 1 1 1;sing 1");
        Due.same("the tones of two lettings", 11 + 4, x.echoOf(1, 4));
    }

    private static void singerOf() {
        Doc.says(14, "Throws `IndexOutOfBoundsException` if there is no such singer");
        Doc.says(14, "Throws `IllegalArgumentException` if what is not 0 to 6");
        noIndex("singerOf", 6, (x, singer) -> x.singerOf(singer, 0));
        badArgument("singerOf", 6, (x, what) -> x.singerOf(1, what));
        Due.onlyThrown("singerOf: the singer ahead of what", PAIR, Due.NO_INDEX, x -> x.singerOf(2, 7));
    }

    private static void singerOfNumbers() {
        Doc.says(14, "Returns a number of a singer. - `what`: 0 for the shyness, 1 for the breath, 2 for the room, -1 for outside,"
            + " 3 for the echoes let to this one, 4 for the verses sung so far, 5 for the tones that returned so far,"
            + " 6 for the deposits that the council holds, together Returns the number.");
        EchoCouncil x = Due.after(PAIR + ";echo 0 3;rent 1 2 9;sing 1;sing 1");
        int[][] due = {{1, 40, -1, 0, 0, 0, 0}, {0, 50 - 9 - 2, 0, 2, 2, 9 + 7, 9}};
        for (int singer = 0; singer <= 1; singer++) {
            for (int what = 0; what <= 6; what++) {
                Due.same("singerOf(" + singer + ", " + what + ")", due[singer][what], x.singerOf(singer, what));
            }
        }
        Due.does(x, "out 1;back 1 1");
        Due.same("outside", -1, x.singerOf(1, 2));
        Due.same("one echo is let yet", 1, x.singerOf(1, 3));
        Due.same("one deposit is held yet", 3, x.singerOf(1, 6));
        Due.same("the tones stay", 16, x.singerOf(1, 5));
    }

    private static void bothTones(String what, EchoCouncil x, int singer, int due) {
        Due.same("tones " + what, due, x.tones(singer));
        Due.same("tonesAgain " + what, due, x.tonesAgain(singer));
    }

    private static void bothVerses(String what, EchoCouncil x, int singer, int due) {
        Due.same("verses " + what, due, x.verses(singer));
        Due.same("versesAgain " + what, due, x.versesAgain(singer));
    }

    // A second singer makes the room damp for the first one.
    private static EchoCouncil damp(String rented, int damp) {
        EchoCouncil x = Due.after("room 9;singer 0 99;singer 0 99;enter 0 0;enter 1 0;" + rented);
        for (int sung = 0; sung < damp; sung++) {
            x.sing(1);
        }
        return x;
    }

    private static void tones() {
        Doc.says(15, "Returns how many tones would return of a verse now: echo by echo. Returns how many.");
        Doc.says(16, "Returns the same by a second way: by how many echoes there are of each strength. Returns how many.");
        for (int strength = 1; strength <= 9; strength++) {
            for (int damp = 0; damp <= 9; damp++) {
                int due = strength > damp ? strength - damp : 0;
                EchoCouncil x = damp("echo 0 " + strength + ";rent 0 0 9;echo 0 9", damp);
                bothTones("of one of strength " + strength + " at damp " + damp, x, 0, due);
                bothTones("of the one who rents nothing", x, 1, 0);
                EchoCouncil y = damp("echo 0 " + strength + ";echo 0 9;echo 0 " + strength + ";rent 0 0 9;rent 0 1 9;rent 0 2 9", damp);
                bothTones("of two of strength " + strength + " and one of 9 at damp " + damp, y, 0, 2 * due + 9 - damp);
                Due.same("the same by a verse", 2 * due + 9 - damp, y.sing(0));
            }
        }
        EchoCouncil x = Due.after("room 9;echo 0 9;singer 0 9;enter 0 0;rent 0 0 1");
        bothTones("with breath 0", x, 0, 9);
    }

    private static void tonesThrown() {
        for (int promise = 15; promise <= 16; promise++) {
            Doc.says(promise, "Throws `IndexOutOfBoundsException` if there is no such singer");
            Doc.says(promise, "Throws `NoSuchElementException` if the singer is outside");
        }
        noIndex("tones", 6, (x, singer) -> x.tones(singer));
        noIndex("tonesAgain", 6, (x, singer) -> x.tonesAgain(singer));
        Due.onlyThrown("tones of one who came", PAIR, Due.NO_ELEMENT, x -> x.tones(0));
        Due.onlyThrown("tonesAgain of one who came", PAIR, Due.NO_ELEMENT, x -> x.tonesAgain(0));
        Due.onlyThrown("tones of one who left", PAIR + ";out 1", Due.NO_ELEMENT, x -> x.tones(1));
        Due.onlyThrown("tonesAgain of one who left", PAIR + ";out 1", Due.NO_ELEMENT, x -> x.tonesAgain(1));
    }

    // The verses that are told are as many as can then really be sung with tones.
    private static void verses() {
        Doc.says(17, "Returns how many verses in a row would bring tones from now on: verse by verse, in thought. Returns how many.");
        Doc.says(18, "Returns the same by a second way: by the verses and the strength of each echo. Returns how many.");
        for (int strength = 1; strength <= 9; strength++) {
            for (int damp = 0; damp <= 9; damp++) {
                for (int verses = 1; verses <= 9; verses++) {
                    EchoCouncil x = damp("echo 0 " + strength + ";rent 0 0 " + verses, damp);
                    int due = strength > damp ? Math.min(verses, strength - damp) : 0;
                    bothVerses("of strength " + strength + ", damp " + damp + ", for " + verses, x, 0, due);
                    int sung = 0;
                    while (sung < 20 && x.sing(0) > 0) {
                        sung++;
                    }
                    Due.same("the same by verses", due, sung);
                }
            }
        }
    }

    private static void versesOfSeveral() {
        bothVerses("of none that is let", damp("echo 0 9", 0), 0, 0);
        bothVerses("of two alike", damp("echo 0 5;echo 0 5;rent 0 0 3;rent 0 1 3", 0), 0, 3);
        bothVerses("of a strong one for 1 and a weak one for 9", damp("echo 0 9;echo 0 2;rent 0 0 1;rent 0 1 9", 0), 0, 2);
        bothVerses("of a strong one for 3 and a weak one for 9", damp("echo 0 9;echo 0 2;rent 0 0 3;rent 0 1 9", 0), 0, 3);
        bothVerses("of one too weak and a strong one", damp("echo 0 2;echo 0 9;rent 0 0 9;rent 0 1 2", 2), 0, 2);
        bothVerses("of one for 2 and one for 5", damp("echo 0 9;echo 0 9;rent 0 0 2;rent 0 1 5", 0), 0, 5);
        bothVerses("without the one that stays in another room",
            Due.after("room 9;room 9;echo 0 9;echo 1 3;singer 0 99;enter 0 0;rent 0 0 9;enter 0 1;rent 0 1 2"), 0, 2);
    }

    private static void versesOnlyThisSinger() {
        Doc.says("Details", "What is asked of verses to come is told as if only this singer sang in this room, with breath enough.");
        EchoCouncil x = Due.after("room 9;echo 0 9;singer 0 9;singer 0 99;enter 0 0;enter 1 0;rent 0 0 9");
        Due.same("the breath", 0, x.singerOf(0, 1));
        bothVerses("with breath 0", x, 0, 9);
        bothVerses("of the other one", x, 1, 0);
        x.sing(1);
        bothVerses("after a verse of the other one", x, 0, 8);
        EchoCouncil y = Due.after("room 9;echo 0 9;singer 0 11;enter 0 0;rent 0 0 9");
        bothVerses("with breath 2", y, 0, 9);
    }

    private static void versesThrown() {
        for (int promise = 17; promise <= 18; promise++) {
            Doc.says(promise, "Throws `IndexOutOfBoundsException` if there is no such singer");
            Doc.says(promise, "Throws `NoSuchElementException` if the singer is outside");
        }
        noIndex("verses", 6, (x, singer) -> x.verses(singer));
        noIndex("versesAgain", 6, (x, singer) -> x.versesAgain(singer));
        Due.onlyThrown("verses of one who came", PAIR, Due.NO_ELEMENT, x -> x.verses(0));
        Due.onlyThrown("versesAgain of one who came", PAIR, Due.NO_ELEMENT, x -> x.versesAgain(0));
        Due.onlyThrown("verses of one who left", PAIR + ";out 1", Due.NO_ELEMENT, x -> x.verses(1));
        Due.onlyThrown("versesAgain of one who left", PAIR + ";out 1", Due.NO_ELEMENT, x -> x.versesAgain(1));
    }

    private static void would() {
        Doc.says(19, "Returns how many tones would return of a verse of a singer in a room, wherever the singer is. Returns how many.");
        Doc.says(19, "Throws `IndexOutOfBoundsException` if there is no such singer or room");
        noIndex("would of a singer", 6, (x, singer) -> x.would(singer, 0));
        noIndex("would in a room", 6, (x, room) -> x.would(0, room));
        Due.onlyThrown("would of neither", PAIR, Due.NO_INDEX, x -> x.would(2, 2));
        for (String moved : new String[] {"enter 0 1", "enter 0 0", "out 0"}) {
            EchoCouncil x = Due.after("room 9;room 9;echo 0 7;echo 1 5;echo 1 9;singer 0 99;enter 0 0;rent 0 0 9;enter 0 1;"
                + "rent 0 1 9;sing 0;out 0;enter 0 1;out 0;enter 0 " + (moved.equals("enter 0 0") ? 1 : 0) + ";" + moved);
            Due.same("would in the first room, " + moved, 7, x.would(0, 0));
            Due.same("would in the second room, " + moved, 4, x.would(0, 1));
        }
        for (int damp = 4; damp <= 6; damp++) {
            Due.same("would of strength 5 at damp " + damp, damp == 4 ? 1 : 0, damp("echo 0 5;rent 0 0 9", damp).would(0, 0));
        }
    }

    private static void bestRoom() {
        Doc.says(20, "Returns the room in which the most tones would return of a verse of a singer, of several the lowest. Returns the room.");
        Doc.says(20, "Throws `IndexOutOfBoundsException` if there is no such singer");
        Doc.says(20, "Throws `NoSuchElementException` if there are no rooms");
        noIndex("bestRoom", 6, (x, singer) -> x.bestRoom(singer));
        Due.onlyThrown("bestRoom without rooms", "singer 0 0", Due.NO_ELEMENT, x -> x.bestRoom(0));
        Due.onlyThrown("bestRoom: the singer ahead of the rooms", "singer 0 0", Due.NO_INDEX, x -> x.bestRoom(1));
        Due.same("the best of one room", 0, Due.after("room 9;singer 0 0").bestRoom(0));
        Due.same("the best of rooms without tones", 0, Due.after("room 9;room 9;room 9;singer 0 0;enter 0 2").bestRoom(0));
        String rooms = "room 9;room 9;room 9;room 9;room 9;room 9;singer 0 99;";
        Due.same("the last one is best", 5, Due.after(rooms + "echo 5 1;enter 0 5;rent 0 0 1").bestRoom(0));
        Due.same("of two alike the lowest", 2, Due.after(rooms + "echo 4 5;echo 2 5;enter 0 4;rent 0 0 1;enter 0 2;rent 0 1 1").bestRoom(0));
        Due.same("one tone less", 4, Due.after(rooms + "echo 4 5;echo 2 4;enter 0 4;rent 0 0 1;enter 0 2;rent 0 1 1").bestRoom(0));
        EchoCouncil x = Due.after(rooms + "echo 0 9;echo 1 9;echo 2 9;singer 0 99;enter 1 0;rent 1 0 9;enter 0 1;rent 0 1 9");
        Due.same("an echo of another one does not count", 1, x.bestRoom(0));
        Due.same("the best room of the other one", 0, x.bestRoom(1));
    }

    // It is so just if a call of enter is not refused.
    private static void canEnter() {
        Doc.says(21, "Returns whether a singer could enter a room now. Returns whether this is so.");
        Doc.says(21, "Throws `IndexOutOfBoundsException` if there is no such singer or room");
        noIndex("canEnter of a singer", 6, (x, singer) -> x.canEnter(singer, 0));
        noIndex("canEnter of a room", 6, (x, room) -> x.canEnter(0, room));
        for (int shyness = 0; shyness <= 9; shyness++) {
            for (int others = 0; others <= 4; others++) {
                for (int size = others == 0 ? 1 : others; size <= others + 1; size++) {
                    StringBuilder orders = new StringBuilder("room " + size + ";room 1;singer " + shyness + " 0");
                    for (int other = 1; other <= others; other++) {
                        orders.append(";singer 0 0;enter ").append(other).append(" 0");
                    }
                    boolean due = others < size && 3 * others <= 9 - shyness;
                    String what = "canEnter, shy " + shyness + ", " + others + " others, size " + size;
                    EchoCouncil x = Due.after(orders.toString());
                    Due.same(what, due, x.canEnter(0, 0));
                    Due.same(what + ", nothing was refused", "none", Due.reasons(x));
                    Due.same(what + ", from a room", due, Due.after(orders + ";enter 0 1").canEnter(0, 0));
                }
            }
        }
        EchoCouncil x = Due.after("room 9;room 9;singer 0 0;enter 0 1");
        Due.same("canEnter of one's own room", false, x.canEnter(0, 1));
        Due.same("canEnter of the other room", true, x.canEnter(0, 0));
    }

    private static void canRent() {
        Doc.says(22, "Returns whether a singer could rent an echo now. Returns whether this is so.");
        Doc.says(22, "Throws `IndexOutOfBoundsException` if there is no such singer or echo");
        Doc.says("Details", "Whether an echo can be rented is asked for any number of verses.");
        noIndex("canRent of a singer", 6, (x, singer) -> x.canRent(singer, 0));
        noIndex("canRent of an echo", 8, (x, echo) -> x.canRent(0, echo));
        for (int strength = 1; strength <= 9; strength++) {
            for (int breath = strength - 1; breath <= strength + 1; breath++) {
                EchoCouncil x = Due.after("room 9;room 9;echo 0 " + strength + ";singer 0 " + breath);
                String what = "canRent of strength " + strength + " with breath " + breath;
                Due.same(what + ", outside", false, x.canRent(0, 0));
                x.enter(0, 1);
                Due.same(what + ", in another room", false, x.canRent(0, 0));
                x.enter(0, 0);
                Due.same(what, breath >= strength, x.canRent(0, 0));
                Due.same(what + ", nothing was refused", "none", Due.reasons(x));
            }
        }
        EchoCouncil x = Due.after("room 9;echo 0 1;singer 0 9;singer 0 9;enter 0 0;enter 1 0;rent 0 0 1");
        Due.same("canRent of one's own", false, x.canRent(0, 0));
        Due.same("canRent of another one's", false, x.canRent(1, 0));
        x.sing(0);
        Due.same("canRent of one whose letting ended", true, x.canRent(1, 0));
    }

    private static void backFor() {
        Doc.says(23, "Returns the breath that would be given back for an echo now. Returns the breath.");
        Doc.says(23, "Throws `IndexOutOfBoundsException` if there is no such echo");
        Doc.says(23, "Throws `NoSuchElementException` if it is not let");
        noIndex("backFor", 8, (x, echo) -> x.backFor(echo));
        Due.onlyThrown("backFor of one that is not let", PAIR, Due.NO_ELEMENT, x -> x.backFor(0));
        Due.onlyThrown("backFor of one that was given back", PAIR + ";back 1 1", Due.NO_ELEMENT, x -> x.backFor(1));
        for (int strength = 1; strength <= 9; strength++) {
            for (int damp = 0; damp <= 9; damp++) {
                EchoCouncil x = damp("echo 0 " + strength + ";rent 0 0 1", damp);
                Due.same("backFor of strength " + strength + " at damp " + damp, Math.max(0, strength - damp), x.backFor(0));
                Due.same("back of the same", Math.max(0, strength - damp), x.back(0, 0));
            }
        }
        EchoCouncil x = Due.after("room 9;echo 0 9;singer 0 99;enter 0 0;rent 0 0 1;night;night;night");
        Due.same("backFor what is more than 99", 9, x.backFor(0));
        x.out(0);
        Due.same("backFor one whose singer is outside", 9, x.backFor(0));
    }

    private static void others() {
        Doc.says(24, "Returns the singers in a room. Returns their set, bit k for the singer k.");
        Doc.says(24, "Throws `IndexOutOfBoundsException` if there is no such room");
        noIndex("others", 6, (x, room) -> x.others(room));
        for (int singer = 0; singer < 6; singer++) {
            EchoCouncil x = Due.after("room 9;room 9;singer 0 0;singer 0 0;singer 0 0;singer 0 0;singer 0 0;singer 0 0;enter " + singer + " 1");
            Due.same("others with " + singer, 1 << singer, x.others(1));
            Due.same("others of an empty room", 0, x.others(0));
        }
        EchoCouncil x = Due.after("room 9;singer 0 0;singer 0 0;singer 0 0;singer 0 0;singer 0 0;singer 0 0;enter 0 0;enter 2 0;enter 3 0;enter 5 0");
        Due.same("others of as many as can be in a room", 1 + 4 + 8 + 32, x.others(0));
    }

    private static void free() {
        Doc.says(25, "Returns the echoes in a room that are not let. Returns their set, bit k for the echo k.");
        Doc.says(25, "Throws `IndexOutOfBoundsException` if there is no such room");
        noIndex("free", 6, (x, room) -> x.free(room));
        EchoCouncil x = Due.after("room 9;room 9;echo 1 1;echo 1 1;echo 1 1;echo 1 1;echo 1 1;echo 1 1;echo 1 1;echo 1 1;singer 0 99;enter 0 1");
        Due.same("free of all", 255, x.free(1));
        Due.same("free of none", 0, x.free(0));
        int set = 255;
        for (int echo = 7; echo >= 0; echo--) {
            x.rent(0, echo, 1);
            set -= 1 << echo;
            Due.same("free without " + echo, set, x.free(1));
        }
        x.back(0, 7);
        Due.same("free after back", 128, x.free(1));
        x.carry(7, 0);
        Due.same("free after carry", 0, x.free(1));
        Due.same("free in the other room", 128, x.free(0));
    }

    private static void dryIn() {
        Doc.says(26, "Returns in how many nights a room would not be damp, if nobody sang. Returns in how many.");
        Doc.says(26, "Throws `IndexOutOfBoundsException` if there is no such room");
        noIndex("dryIn", 6, (x, room) -> x.dryIn(room));
        int[] nights = {0, 1, 1, 2, 2, 3, 3, 4, 4, 5};
        for (int damp = 0; damp <= 9; damp++) {
            EchoCouncil x = damp("room 9", damp);
            Due.same("dryIn of damp " + damp, nights[damp], x.dryIn(0));
            Due.same("dryIn of a dry room", 0, x.dryIn(1));
            int passed = 0;
            while (x.roomOf(0, 1) > 0) {
                x.night();
                passed++;
            }
            Due.same("the nights that it takes from " + damp, nights[damp], passed);
        }
    }

    private interface Placed {
        int at(int place);
    }

    private static void order(String what, int count, Placed order, Integer... due) {
        List<Integer> got = new ArrayList<>();
        for (int place = 0; place < count; place++) {
            got.add(order.at(place));
        }
        Due.same(what, List.of(due), got);
    }

    private static void dampest() {
        Doc.says(27, "- `place`: its place in the order, from 0 Returns the room.");
        Doc.says(27, "Throws `NoSuchElementException` if there is no such place");
        noPlace("dampest", 6, (x, place) -> x.dampest(place));
        Due.same("the only room", 0, Due.after("room 1").dampest(0));
        EchoCouncil x = Due.after("room 1;room 1;room 1;room 1;room 1;room 1;singer 0 99;enter 0 5;sing 0;sing 0;enter 0 1;sing 0;out 0");
        order("six rooms", 6, x::dampest, 5, 1, 0, 2, 3, 4);
    }

    private static void dampestOfEqual() {
        Doc.says(27, "Returns a room in the order of rooms: the dampest first, of several the one with more singers, then the lowest.");
        String hall = "room 9;room 9;room 9;singer 0 99;singer 0 99;singer 0 99;";
        order("all alike", 3, Due.after(hall + "night")::dampest, 0, 1, 2);
        order("one with a singer", 3, Due.after(hall + "enter 0 2")::dampest, 2, 0, 1);
        order("two against one", 3, Due.after(hall + "enter 0 1;enter 1 2;enter 2 2")::dampest, 2, 1, 0);
        order("one against one", 3, Due.after(hall + "enter 0 2;enter 1 1")::dampest, 1, 2, 0);
        order("damp ahead of singers", 3, Due.after(hall + "enter 0 2;sing 0;enter 0 1;enter 1 1;enter 2 1")::dampest, 2, 1, 0);
        order("as damp, with more singers", 3, Due.after(hall + "enter 0 1;sing 0;enter 0 2;sing 0")::dampest, 2, 1, 0);
        order("as damp, with as many singers", 3, Due.after(hall + "enter 0 2;sing 0;enter 0 1;sing 0;out 0")::dampest, 1, 2, 0);
        order("one more damp", 3, Due.after(hall + "enter 0 2;sing 0;sing 0;enter 0 1;sing 0")::dampest, 2, 1, 0);
    }

    private static void ranked() {
        Doc.says(28, "- `place`: the place in the order, from 0 Returns the singer.");
        Doc.says(28, "Throws `IllegalArgumentException` if there is no such kind");
        Doc.says(28, "Throws `NoSuchElementException` if there is no such place");
        badArgument("ranked", 3, (x, kind) -> x.ranked(kind, 0));
        for (int kind = 0; kind <= 3; kind++) {
            int kindOf = kind;
            noPlace("ranked by " + kind, 6, (x, place) -> x.ranked(kindOf, place));
        }
        Due.onlyThrown("ranked: the kind ahead of the place", PAIR, Due.BAD_ARGUMENT, x -> x.ranked(4, 2));
        Due.onlyThrown("ranked: the kind of none", "", Due.BAD_ARGUMENT, x -> x.ranked(-1, 0));
    }

    private static void rankedOfEqual() {
        Doc.says(28, "- `kind`: 0 by breath, 1 by tones so far, 2 by verses so far, 3 by shyness");
        Doc.says(28, "Returns a singer in an order, the greatest first, of several the lowest.");
        EchoCouncil x = Due.after("singer 5 5;singer 5 5;singer 5 5;singer 5 5;singer 5 5;singer 5 5");
        for (int kind = 0; kind <= 3; kind++) {
            int kindOf = kind;
            order("all alike by " + kind, 6, place -> x.ranked(kindOf, place), 0, 1, 2, 3, 4, 5);
        }
        EchoCouncil y = Due.after("room 9;singer 1 61;singer 2 62;singer 2 60;singer 3 60;echo 0 9;echo 0 2;enter 0 0;enter 1 0;enter 2 0;"
            + "rent 0 0 9;rent 1 1 9;sing 0;sing 1;sing 2;sing 2");
        order("by breath", 4, place -> y.ranked(0, place), 3, 1, 2, 0);
        order("by tones", 4, place -> y.ranked(1, place), 0, 1, 2, 3);
        order("by verses", 4, place -> y.ranked(2, place), 2, 0, 1, 3);
        order("by shyness", 4, place -> y.ranked(3, place), 3, 1, 2, 0);
    }

    private static void strongest() {
        Doc.says(29, "Returns an echo in the order of echoes: by strength, the greatest first, of several one that is not let"
            + " ahead of one that is, then the lowest. - `place`: its place in the order, from 0 Returns the echo.");
        Doc.says(29, "Throws `NoSuchElementException` if there is no such place");
        noPlace("strongest", 8, (x, place) -> x.strongest(place));
        Due.same("the only echo", 0, Due.after("room 9;echo 0 1").strongest(0));
        String hall = "room 9;echo 0 5;echo 0 5;echo 0 4;echo 0 5;echo 0 6;echo 0 4;echo 0 9;echo 0 1;singer 0 99;enter 0 0;";
        order("eight echoes", 8, Due.after(hall + "night")::strongest, 6, 4, 0, 1, 3, 2, 5, 7);
        order("the first of equals is let", 8, Due.after(hall + "rent 0 0 1")::strongest, 6, 4, 1, 3, 0, 2, 5, 7);
        order("the first two of equals are let", 8, Due.after(hall + "rent 0 1 1;rent 0 0 1")::strongest, 6, 4, 3, 0, 1, 2, 5, 7);
        order("all of equals are let", 8, Due.after(hall + "rent 0 3 1;rent 0 1 1;rent 0 0 1")::strongest, 6, 4, 0, 1, 3, 2, 5, 7);
        order("the strength ahead of being let", 8, Due.after(hall + "rent 0 6 1;rent 0 4 1;rent 0 2 1")::strongest, 6, 4, 0, 1, 3, 5, 2, 7);
    }

    // No call of the face can make it false, so the test is that it stays true at the boundaries.
    private static void isTold() {
        Doc.says(30, "Returns whether for all singers in rooms both ways to tones and to verses agree, and the deposits so far"
            + " are those given back, those kept and those held. Returns whether this is so.");
        Due.same("isTold of nothing", true, new EchoCouncil().isTold());
        Due.same("isTold with all held", true, Due.after(PAIR).isTold());
        Due.same("isTold with all given back", true, Due.after(PAIR + ";back 1 1").isTold());
        Due.same("isTold with a part kept", true, Due.after(PAIR + ";sing 1;back 1 1").isTold());
        EchoCouncil kept = damp("echo 0 1;rent 0 0 1", 1);
        kept.sing(0);
        Due.same("the deposit was kept", 1, kept.account(10));
        Due.same("isTold with all kept", true, kept.isTold());
        Due.same("isTold with one who rents and is outside", true, Due.after(PAIR + ";out 1").isTold());
        for (int damp = 0; damp <= 9; damp++) {
            EchoCouncil x = damp("echo 0 1;echo 0 5;echo 0 9;echo 0 9;rent 0 0 9;rent 0 1 2;rent 0 2 1;rent 1 3 9", damp);
            Due.same("isTold at damp " + damp, true, x.isTold());
            x.sing(0);
            Due.same("isTold a verse later than at damp " + damp, true, x.isTold());
            x.undo();
            Due.same("isTold when it is undone", true, x.isTold());
        }
    }

    // Of the last of each kind, as many as there can be, and of none behind them.
    private static void fullCouncil() {
        Doc.says("Rooms", "At most 6 rooms are there, numbered from 0.");
        Doc.says("Echoes", "At most 8 echoes are there, numbered from 0.");
        Doc.says("Singers", "At most 6 singers are there, numbered from 0.");
        EchoCouncil x = Due.after(FULL);
        numbers("roomOf", 6, what -> x.roomOf(5, what), 9, 2, 4, 3, 2, 2);
        numbers("echoOf", 5, what -> x.echoOf(7, what), 5, 8, 5, 8, 8);
        numbers("singerOf", 7, what -> x.singerOf(5, what), 0, 83, 5, 2, 1, 15, 15);
        numbers("account", 12, what -> x.account(what), 6, 8, 6, 3, 0, 2, 2, 20, 26, 5, 1, 20);
        bothTones("of the last singer", x, 5, 6 + 5);
        bothTones("of one who rents nothing any more", x, 4, 0);
        bothTones("in another room", x, 1, 5);
        bothVerses("of the last singer", x, 5, 6);
        bothVerses("in another room", x, 1, 3);
        Due.same("would of the last in the last", 11, x.would(5, 5));
        Due.same("would of the last in the first", 0, x.would(5, 0));
        Due.same("bestRoom of the last", 5, x.bestRoom(5));
        Due.same("bestRoom of the first", 0, x.bestRoom(0));
        Due.same("canEnter of the first in the last", false, x.canEnter(0, 5));
        Due.same("canEnter of the last in the first", true, x.canEnter(5, 0));
        Due.same("canRent of the last and the last", false, x.canRent(5, 7));
        Due.same("canRent of one that is free", true, x.canRent(5, 5));
        Due.same("backFor of the last", 6, x.backFor(7));
        Due.same("others of the last", 4 + 8 + 16 + 32, x.others(5));
        Due.same("free of the last", 32, x.free(5));
        Due.same("dryIn of the last", 1, x.dryIn(5));
        order("dampest", 6, x::dampest, 5, 4, 0, 1, 2, 3);
        order("by breath", 6, place -> x.ranked(0, place), 4, 5, 3, 2, 1, 0);
        order("by tones", 6, place -> x.ranked(1, place), 5, 4, 0, 1, 2, 3);
        order("by verses", 6, place -> x.ranked(2, place), 4, 5, 0, 1, 2, 3);
        order("by shyness", 6, place -> x.ranked(3, place), 1, 0, 2, 3, 4, 5);
        order("strongest", 8, x::strongest, 7, 6, 5, 4, 3, 2, 1, 0);
        Due.same("isTold", true, x.isTold());
        Due.same("meanDamp", 2.0 / 6.0, x.meanDamp());
        Due.same("letShare", 3.0f / 8.0f, x.letShare());
        Due.same("night", 18, x.night());
        Due.same("the breath of the last", 86, x.singerOf(5, 1));
        Due.same("the last room is dry", 0, x.roomOf(5, 1));
    }

    private static void numbers(String what, int count, Placed number, Integer... due) {
        order(what + " of a full council", count, number, due);
    }
}
