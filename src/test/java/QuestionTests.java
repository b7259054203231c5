// Promises 12 to 30: what can be asked of rooms, echoes and singers.
public final class QuestionTests {
    private static final int[] NOT_THERE = {-1, 9, Integer.MIN_VALUE, Integer.MAX_VALUE};

    public static void main(String[] args) {
        roomOf();
        echoOf();
        singerOf();
        tones();
        tonesOfOneStrength();
        verses();
        would();
        bestRoom();
        canEnter();
        canRent();
        backFor();
        others();
        free();
        dryIn();
        dampest();
        rankedByBreath();
        rankedByOthers();
        strongest();
        isTold();
        notThere();
        fullHouse();
        Due.end();
    }

    // Two rooms; in the first one three echoes, two of them let, and two singers.
    private static EchoCouncil hall() {
        EchoCouncil x = Due.after("room 5;room 2;echo 0 7;echo 0 3;echo 1 5;echo 0 6;echo 1 9;"
            + "singer 0 60;singer 3 40;singer 9 9;enter 0 1;enter 1 0");
        return Due.does(x, "rent 0 2 4;enter 0 0;rent 0 0 2;rent 1 1 5;sing 0");
    }

    private static void roomOf() {
        EchoCouncil x = hall();
        int[][] due = {{5, 1, 2, 3, 2, 1}, {2, 0, 0, 2, 1, 0}};
        for (int room = 0; room < 2; room++) {
            for (int what = 0; what <= 5; what++) {
                Due.same("roomOf(" + room + ", " + what + ")", due[room][what], x.roomOf(room, what));
            }
        }
        Due.thrown("roomOf(0, 6)", Due.BAD_ARGUMENT, () -> x.roomOf(0, 6));
        Due.thrown("roomOf(0, -1)", Due.BAD_ARGUMENT, () -> x.roomOf(0, -1));
        Due.thrown("roomOf(2, 0)", Due.NO_INDEX, () -> x.roomOf(2, 0));
        Due.thrown("roomOf(2, 6)", Due.NO_INDEX, () -> x.roomOf(2, 6));
    }

    private static void echoOf() {
        EchoCouncil x = hall();
        int[][] due = {{0, 7, 0, 1, 7}, {0, 3, 1, 5, 0}, {1, 5, 0, 4, 0}, {0, 6, -1, 0, 0}, {1, 9, -1, 0, 0}};
        for (int echo = 0; echo < 5; echo++) {
            for (int what = 0; what <= 4; what++) {
                Due.same("echoOf(" + echo + ", " + what + ")", due[echo][what], x.echoOf(echo, what));
            }
        }
        Due.thrown("echoOf(0, 5)", Due.BAD_ARGUMENT, () -> x.echoOf(0, 5));
        Due.thrown("echoOf(0, -1)", Due.BAD_ARGUMENT, () -> x.echoOf(0, -1));
        Due.thrown("echoOf(5, 0)", Due.NO_INDEX, () -> x.echoOf(5, 0));
        Due.thrown("echoOf(5, 5)", Due.NO_INDEX, () -> x.echoOf(5, 5));
    }

    private static void singerOf() {
        EchoCouncil x = hall();
        int[][] due = {{0, 47, 0, 2, 1, 7, 12}, {3, 37, 0, 1, 0, 0, 3}, {9, 9, -1, 0, 0, 0, 0}};
        for (int singer = 0; singer < 3; singer++) {
            for (int what = 0; what <= 6; what++) {
                Due.same("singerOf(" + singer + ", " + what + ")", due[singer][what], x.singerOf(singer, what));
            }
        }
        Due.thrown("singerOf(0, 7)", Due.BAD_ARGUMENT, () -> x.singerOf(0, 7));
        Due.thrown("singerOf(0, -1)", Due.BAD_ARGUMENT, () -> x.singerOf(0, -1));
        Due.thrown("singerOf(3, 0)", Due.NO_INDEX, () -> x.singerOf(3, 0));
        Due.thrown("singerOf(3, 7)", Due.NO_INDEX, () -> x.singerOf(3, 7));
    }

    private static void bothTones(String what, EchoCouncil x, int singer, int due) {
        Due.same("tones " + what, due, x.tones(singer));
        Due.same("tonesAgain " + what, due, x.tonesAgain(singer));
    }

    private static void bothVerses(String what, EchoCouncil x, int singer, int due) {
        Due.same("verses " + what, due, x.verses(singer));
        Due.same("versesAgain " + what, due, x.versesAgain(singer));
    }

    private static void tones() {
        EchoCouncil x = hall();
        bothTones("of the first in the hall", x, 0, 6);
        bothTones("of the second in the hall", x, 1, 2);
        x.enter(0, 1);
        bothTones("in the other room", x, 0, 5);
        x.out(0);
        Due.thrown("tones outside", Due.NO_ELEMENT, () -> x.tones(0));
        Due.thrown("tonesAgain outside", Due.NO_ELEMENT, () -> x.tonesAgain(0));
        Due.thrown("tones of nobody", Due.NO_INDEX, () -> x.tones(3));
        Due.thrown("tonesAgain of nobody", Due.NO_INDEX, () -> x.tonesAgain(3));
        EchoCouncil y = Due.after("room 1;echo 0 2;singer 0 9;enter 0 0");
        bothTones("of nothing let", y, 0, 0);
        Due.does(y, "rent 0 0 9;sing 0");
        bothTones("at damp 1", y, 0, 1);
        y.sing(0);
        bothTones("as damp as strong", y, 0, 0);
        y.sing(0);
        bothTones("damper than strong", y, 0, 0);
    }

    private static void tonesOfOneStrength() {
        EchoCouncil x = Due.after("room 1;echo 0 9;echo 0 9;echo 0 1;echo 0 1;singer 0 99;enter 0 0;"
            + "rent 0 0 9;rent 0 1 9;rent 0 2 9;rent 0 3 9");
        for (int damp = 0; damp <= 9; damp++) {
            bothTones("at damp " + damp, x, 0, damp == 0 ? 20 : 2 * Math.max(0, 9 - damp));
            bothVerses("at damp " + damp, x, 0, 9 - damp);
            x.sing(0);
        }
    }

    private static void verses() {
        EchoCouncil x = hall();
        bothVerses("of the first in the hall", x, 0, 1);
        bothVerses("of the second in the hall", x, 1, 2);
        x.enter(0, 1);
        bothVerses("in the other room", x, 0, 4);
        x.out(0);
        Due.thrown("verses outside", Due.NO_ELEMENT, () -> x.verses(0));
        Due.thrown("versesAgain outside", Due.NO_ELEMENT, () -> x.versesAgain(0));
        Due.thrown("verses of nobody", Due.NO_INDEX, () -> x.verses(-1));
        Due.thrown("versesAgain of nobody", Due.NO_INDEX, () -> x.versesAgain(-1));
        EchoCouncil y = Due.after("room 1;echo 0 9;echo 0 2;singer 0 11;enter 0 0");
        bothVerses("of nothing let", y, 0, 0);
        Due.does(y, "rent 0 0 1;rent 0 1 9");
        Due.same("the breath", 0, y.singerOf(0, 1));
        bothVerses("without breath: the weaker one has more", y, 0, 2);
        EchoCouncil z = Due.after("room 1;echo 0 9;singer 0 9;enter 0 0;rent 0 0 9");
        bothVerses("of the strongest for the longest", z, 0, 9);
        bothTones("of the strongest for the longest", z, 0, 9);
    }

    private static void would() {
        EchoCouncil x = hall();
        Due.same("would in its room", 6, x.would(0, 0));
        Due.same("would in the other room", 5, x.would(0, 1));
        Due.same("would from outside", 0, x.would(2, 0));
        x.out(0);
        Due.same("would outside", 6, x.would(0, 0));
        Due.thrown("would(3, 0)", Due.NO_INDEX, () -> x.would(3, 0));
        Due.thrown("would(0, 2)", Due.NO_INDEX, () -> x.would(0, 2));
    }

    private static void bestRoom() {
        EchoCouncil x = hall();
        Due.same("the best of two", 0, x.bestRoom(0));
        x.sing(1);
        Due.same("of two equal ones the lowest", 0, x.bestRoom(0));
        x.sing(1);
        Due.same("the other one is better", 1, x.bestRoom(0));
        Due.same("the best of one who rents nothing", 0, x.bestRoom(2));
        Due.thrown("bestRoom(3)", Due.NO_INDEX, () -> x.bestRoom(3));
        EchoCouncil y = Due.after("singer 0 0");
        Due.thrown("bestRoom without rooms", Due.NO_ELEMENT, () -> y.bestRoom(0));
        Due.thrown("bestRoom of nobody without rooms", Due.NO_INDEX, () -> y.bestRoom(1));
    }

    private static void canEnter() {
        EchoCouncil x = Due.after("room 9;room 1;singer 0 0;singer 6 0;singer 7 0;singer 4 0");
        Due.same("an empty room", true, x.canEnter(2, 0));
        x.enter(0, 0);
        Due.same("one's own room", false, x.canEnter(0, 0));
        Due.same("one other, shy 7", false, x.canEnter(2, 0));
        Due.same("one other, shy 6", true, x.canEnter(1, 0));
        x.enter(1, 0);
        Due.same("two others, shy 4", false, x.canEnter(3, 0));
        x.enter(3, 1);
        Due.same("a full room", false, x.canEnter(0, 1));
        Due.thrown("canEnter(4, 0)", Due.NO_INDEX, () -> x.canEnter(4, 0));
        Due.thrown("canEnter(0, 2)", Due.NO_INDEX, () -> x.canEnter(0, 2));
        Due.thrown("its reason: nothing was refused", Due.NO_ELEMENT, () -> x.reason(0, false));
        EchoCouncil y = Due.after("room 3;singer 0 0;singer 3 0;singer 3 0;enter 0 0;enter 1 0");
        Due.same("two others, shy 3", true, y.canEnter(2, 0));
    }

    private static void canRent() {
        EchoCouncil x = Due.after("room 2;room 2;echo 0 5;echo 1 6;echo 0 9;singer 0 10;singer 0 9");
        Due.same("from outside", false, x.canRent(0, 0));
        x.enter(0, 0);
        Due.same("in its room", true, x.canRent(0, 0));
        Due.same("in another room", false, x.canRent(0, 1));
        Due.same("for all the breath but one", true, x.canRent(0, 2));
        x.rent(0, 0, 3);
        Due.same("one's own", false, x.canRent(0, 0));
        Due.same("too little breath", false, x.canRent(0, 2));
        x.enter(1, 0);
        Due.same("one that is let to another", false, x.canRent(1, 0));
        Due.same("for all the breath", true, x.canRent(1, 2));
        Due.thrown("canRent(2, 0)", Due.NO_INDEX, () -> x.canRent(2, 0));
        Due.thrown("canRent(0, 3)", Due.NO_INDEX, () -> x.canRent(0, 3));
        Due.thrown("its reason: nothing was refused", Due.NO_ELEMENT, () -> x.reason(0, false));
    }

    private static void backFor() {
        EchoCouncil x = hall();
        Due.same("backFor(0) at damp 1", 6, x.backFor(0));
        Due.same("backFor(2) at damp 0", 5, x.backFor(2));
        Due.thrown("backFor of one that is not let", Due.NO_ELEMENT, () -> x.backFor(3));
        Due.thrown("backFor(5)", Due.NO_INDEX, () -> x.backFor(5));
        Due.does(x, "sing 1;sing 1");
        Due.same("as damp as strong", 0, x.backFor(1));
        x.sing(1);
        Due.same("damper than strong", 0, x.backFor(1));
        Due.same("what back answers then", 0, x.back(1, 1));
        EchoCouncil y = Due.after("room 1;echo 0 9;singer 0 99;enter 0 0;rent 0 0 9;night;night;night");
        Due.same("what is more than 99 is counted", 9, y.backFor(0));
    }

    private static void others() {
        EchoCouncil x = hall();
        Due.same("others(0)", 3, x.others(0));
        Due.same("others(1)", 0, x.others(1));
        x.out(0);
        Due.same("others(0) then", 2, x.others(0));
        x.enter(2, 1);
        Due.same("others(1) then", 4, x.others(1));
        Due.thrown("others(2)", Due.NO_INDEX, () -> x.others(2));
    }

    private static void free() {
        EchoCouncil x = hall();
        Due.same("free(0)", 8, x.free(0));
        Due.same("free(1)", 16, x.free(1));
        x.back(1, 1);
        Due.same("free(0) after back", 10, x.free(0));
        x.sing(0);
        Due.same("free(0) after the last verse", 11, x.free(0));
        x.carry(3, 1);
        Due.same("free(1) after carry", 24, x.free(1));
        Due.thrown("free(2)", Due.NO_INDEX, () -> x.free(2));
    }

    private static void dryIn() {
        EchoCouncil x = Due.after("room 1;room 1;singer 0 99;enter 0 0");
        int[] nights = {0, 1, 1, 2, 2, 3, 3, 4, 4, 5, 5};
        for (int sung = 0; sung < nights.length; sung++) {
            Due.same("dryIn after " + sung, nights[sung], x.dryIn(0));
            x.sing(0);
        }
        Due.same("dryIn of the other room", 0, x.dryIn(1));
        Due.thrown("dryIn(2)", Due.NO_INDEX, () -> x.dryIn(2));
        x.night();
        Due.same("dryIn after a night", 4, x.dryIn(0));
    }

    private static void orderOfRooms(String what, EchoCouncil x, int... due) {
        for (int place = 0; place < due.length; place++) {
            Due.same(what + ", place " + place, due[place], x.dampest(place));
        }
        Due.thrown(what + ", behind the last", Due.NO_ELEMENT, () -> x.dampest(due.length));
        Due.thrown(what + ", ahead of the first", Due.NO_ELEMENT, () -> x.dampest(-1));
    }

    private static void dampest() {
        EchoCouncil x = new EchoCouncil();
        orderOfRooms("rooms without any", x);
        Due.does(x, "room 9;room 9;room 9;room 9;singer 0 99;singer 0 99");
        orderOfRooms("rooms all alike", x, 0, 1, 2, 3);
        Due.does(x, "enter 0 3");
        orderOfRooms("one with a singer", x, 3, 0, 1, 2);
        Due.does(x, "sing 0;enter 0 2;enter 1 2");
        orderOfRooms("a damp one ahead of one with singers", x, 3, 2, 0, 1);
        Due.does(x, "sing 1;sing 1;enter 1 1");
        orderOfRooms("of two damp ones the damper", x, 2, 3, 1, 0);
        Due.does(x, "enter 1 3;sing 1;enter 0 0;enter 1 2");
        orderOfRooms("of two alike the one with more singers", x, 2, 3, 0, 1);
        Due.does(x, "out 1;out 0");
        orderOfRooms("of two alike the lowest", x, 2, 3, 0, 1);
    }

    private static void orderOfSingers(String what, EchoCouncil x, int kind, int... due) {
        for (int place = 0; place < due.length; place++) {
            Due.same(what + ", place " + place, due[place], x.ranked(kind, place));
        }
        Due.thrown(what + ", behind the last", Due.NO_ELEMENT, () -> x.ranked(kind, due.length));
        Due.thrown(what + ", ahead of the first", Due.NO_ELEMENT, () -> x.ranked(kind, -1));
    }

    private static void rankedByBreath() {
        EchoCouncil x = new EchoCouncil();
        orderOfSingers("singers without any", x, 0);
        Due.thrown("ranked(-1, 0)", Due.BAD_ARGUMENT, () -> x.ranked(-1, 0));
        Due.thrown("ranked(4, 0)", Due.BAD_ARGUMENT, () -> x.ranked(4, 0));
        Due.does(x, "singer 3 5;singer 1 50;singer 2 5;singer 9 99");
        orderOfSingers("by breath", x, 0, 3, 1, 0, 2);
        orderOfSingers("by shyness", x, 3, 3, 0, 2, 1);
        orderOfSingers("by tones, all alike", x, 1, 0, 1, 2, 3);
        orderOfSingers("by verses, all alike", x, 2, 0, 1, 2, 3);
        Due.thrown("ranked(4, 9)", Due.BAD_ARGUMENT, () -> x.ranked(4, 9));
    }

    private static void rankedByOthers() {
        EchoCouncil x = Due.after("room 9;echo 0 9;echo 0 1;singer 0 50;singer 0 50;singer 0 50;"
            + "enter 0 0;enter 1 0;enter 2 0;rent 2 0 9;rent 1 1 9");
        Due.does(x, "sing 1;sing 0;sing 0;sing 2");
        orderOfSingers("by tones", x, 1, 2, 1, 0);
        orderOfSingers("by verses", x, 2, 0, 1, 2);
        orderOfSingers("by breath", x, 0, 0, 1, 2);
        orderOfSingers("by shyness", x, 3, 0, 1, 2);
    }

    private static void orderOfEchoes(String what, EchoCouncil x, int... due) {
        for (int place = 0; place < due.length; place++) {
            Due.same(what + ", place " + place, due[place], x.strongest(place));
        }
        Due.thrown(what + ", behind the last", Due.NO_ELEMENT, () -> x.strongest(due.length));
        Due.thrown(what + ", ahead of the first", Due.NO_ELEMENT, () -> x.strongest(-1));
    }

    private static void strongest() {
        EchoCouncil x = new EchoCouncil();
        orderOfEchoes("echoes without any", x);
        Due.does(x, "room 9;echo 0 3;echo 0 9;echo 0 3;echo 0 3;echo 0 1");
        orderOfEchoes("by strength", x, 1, 0, 2, 3, 4);
        Due.does(x, "singer 0 99;enter 0 0;rent 0 0 1;rent 0 1 1;rent 0 3 1");
        orderOfEchoes("by strength, not let ones first", x, 1, 2, 0, 3, 4);
    }

    private static void isTold() {
        EchoCouncil x = hall();
        Due.same("the hall is told", true, x.isTold());
        for (int verse = 0; verse < 12; verse++) {
            x.sing(verse % 2);
            Due.same("it stays so", true, x.isTold());
        }
        x.back(0, 2);
        Due.same("it is so after back", true, x.isTold());
    }

    private static void notThere() {
        EchoCouncil x = Due.after("room 1;echo 0 1;singer 0 0");
        for (int number : NOT_THERE) {
            Due.thrown("roomOf", Due.NO_INDEX, () -> x.roomOf(number, 0));
            Due.thrown("echoOf", Due.NO_INDEX, () -> x.echoOf(number, 0));
            Due.thrown("singerOf", Due.NO_INDEX, () -> x.singerOf(number, 0));
            Due.thrown("tones", Due.NO_INDEX, () -> x.tones(number));
            Due.thrown("tonesAgain", Due.NO_INDEX, () -> x.tonesAgain(number));
            Due.thrown("verses", Due.NO_INDEX, () -> x.verses(number));
            Due.thrown("versesAgain", Due.NO_INDEX, () -> x.versesAgain(number));
            Due.thrown("would of nobody", Due.NO_INDEX, () -> x.would(number, 0));
            Due.thrown("would in no room", Due.NO_INDEX, () -> x.would(0, number));
            Due.thrown("bestRoom", Due.NO_INDEX, () -> x.bestRoom(number));
            Due.thrown("canEnter of nobody", Due.NO_INDEX, () -> x.canEnter(number, 0));
            Due.thrown("canEnter no room", Due.NO_INDEX, () -> x.canEnter(0, number));
            Due.thrown("canRent of nobody", Due.NO_INDEX, () -> x.canRent(number, 0));
            Due.thrown("canRent no echo", Due.NO_INDEX, () -> x.canRent(0, number));
            Due.thrown("backFor", Due.NO_INDEX, () -> x.backFor(number));
            Due.thrown("others", Due.NO_INDEX, () -> x.others(number));
            Due.thrown("free", Due.NO_INDEX, () -> x.free(number));
            Due.thrown("dryIn", Due.NO_INDEX, () -> x.dryIn(number));
            Due.thrown("dampest", Due.NO_ELEMENT, () -> x.dampest(number));
            Due.thrown("ranked", Due.NO_ELEMENT, () -> x.ranked(0, number));
            Due.thrown("ranked of no kind", Due.BAD_ARGUMENT, () -> x.ranked(number, 0));
            Due.thrown("strongest", Due.NO_ELEMENT, () -> x.strongest(number));
        }
    }

    // As many rooms, echoes and singers as there can be, with the most going on in the last room.
    private static void fullHouse() {
        EchoCouncil x = Due.after("room 1;room 2;room 3;room 4;room 5;room 9;echo 0 1;echo 1 2;echo 2 3;echo 3 4;"
            + "echo 4 5;echo 5 6;echo 5 7;echo 5 8;singer 0 50;singer 0 60;singer 0 70;singer 0 80;"
            + "singer 0 90;singer 0 99;enter 5 5;enter 4 5;enter 3 5;enter 2 5;enter 1 4;"
            + "rent 5 7 9;rent 5 6 2;rent 4 5 1;rent 1 4 3;sing 5;sing 4");
        Due.same("rooms, echoes and singers", "6 8 6", x.account(0) + " " + x.account(1) + " " + x.account(2));
        Due.same("breath", "50 55 70 80 88 83", breaths(x));
        bothTones("of the last singer", x, 5, 11);
        bothVerses("of the last singer", x, 5, 6);
        Due.same("would", 11, x.would(5, 5));
        Due.same("bestRoom of the last singer", 5, x.bestRoom(5));
        Due.same("bestRoom of another", 4, x.bestRoom(1));
        Due.same("canEnter", false, x.canEnter(0, 5));
        Due.same("canRent", false, x.canRent(5, 7));
        Due.same("others", 60, x.others(5));
        Due.same("free", 32, x.free(5));
        Due.same("dryIn", 1, x.dryIn(5));
        orderOfRooms("six rooms", x, 5, 4, 0, 1, 2, 3);
        orderOfSingers("six singers by breath", x, 0, 4, 5, 3, 2, 1, 0);
        orderOfSingers("six singers by tones", x, 1, 5, 4, 0, 1, 2, 3);
        orderOfSingers("six singers by verses", x, 2, 4, 5, 0, 1, 2, 3);
        orderOfSingers("six singers by shyness", x, 3, 0, 1, 2, 3, 4, 5);
        orderOfEchoes("eight echoes", x, 7, 6, 5, 4, 3, 2, 1, 0);
        Due.same("isTold", true, x.isTold());
        Due.same("tellRoom", 19, x.tellRoom(5));
        Due.same("its line", "5[9~2]56*7*s2s3s4s5", Due.line(x));
        int[] accounts = {6, 8, 6, 3, 0, 2, 2, 20, 26, 5, 1, 20};
        for (int what = 0; what < accounts.length; what++) {
            Due.same("account(" + what + ")", accounts[what], x.account(what));
        }
        Due.same("meanDamp", 2.0 / 6.0, x.meanDamp());
        Due.same("letShare", 3.0f / 8.0f, x.letShare());
        Due.same("night", 18, x.night());
        Due.same("night again", 18, x.night());
        Due.same("breath then", "56 61 76 86 94 89", breaths(x));
    }

    private static String breaths(EchoCouncil x) {
        StringBuilder breaths = new StringBuilder();
        for (int singer = 0; singer < x.account(2); singer++) {
            breaths.append(singer == 0 ? "" : " ").append(x.singerOf(singer, 1));
        }
        return breaths.toString();
    }
}
