// Boundaries of promises 2 to 10: what is refused, for which of several reasons, and what just is not.
// After each refusal all but the reason is the same, now and by every undo, run and restore to come.
final class RefusalBoundaries {
    private static final int LEAST = Integer.MIN_VALUE;
    private static final int GREATEST = Integer.MAX_VALUE;
    private static final String SIX_ROOMS = "room 1;room 2;room 3;room 4;room 5;room 6";
    private static final String EIGHT_ECHOES = "room 1;room 2;echo 0 1;echo 0 2;echo 1 3;echo 1 4;echo 0 5;echo 0 6;"
        + "echo 1 7;echo 1 8";
    private static final String SIX_SINGERS = "singer 0 1;singer 1 2;singer 2 3;singer 3 4;singer 4 5;singer 5 6";

    private RefusalBoundaries() {
    }

    static void all() {
        sizeOfRoom();
        mostRooms();
        roomInOrder();
        roomOfEcho();
        strengthOfEcho();
        mostEchoes();
        echoInOrder();
        shynessOfSinger();
        breathOfSinger();
        mostSingers();
        singerInOrder();
        enterByNobody();
        enterNoRoom();
        enterThereAlready();
        enterFullRoom();
        enterTooManyOthers();
        enterInOrder();
        outByNobody();
        outFromOutside();
        carryNoEcho();
        carryToNoRoom();
        carryThereAlready();
        carryLetEcho();
        carryInOrder();
        rentByNobody();
        rentNoEcho();
        versesOfRent();
        rentLetEcho();
        rentFromElsewhere();
        rentWithTooLittleBreath();
        rentInOrder();
        backByNobody();
        backOfNoEcho();
        backOfEchoNotLetToSinger();
        backInOrder();
        singByNobody();
        singOutside();
        singWithoutBreath();
        singInOrder();
    }

    private static void sizeOfRoom() {
        Doc.says("Rooms", "A room has a size from 1 to 9");
        Doc.says("Refusals", "3, a number is out of range: the number;");
        Doc.says(2, "if it is refused for the reason 3 or 1; the reason is kept");
        for (int size : new int[] {0, 10, -1, LEAST, GREATEST}) {
            Due.onlyRefused("room(" + size + ")", "room 4", 3, size, x -> x.room(size));
        }
        for (int size = 1; size <= 9; size++) {
            EchoCouncil x = new EchoCouncil();
            Due.same("room(" + size + ")", 0, x.room(size));
            Due.same("the size of it", size, x.roomOf(0, 0));
        }
    }

    private static void mostRooms() {
        Doc.says("Rooms", "At most 6 rooms are there, numbered from 0.");
        Doc.says("Refusals", "1, there are 6 rooms, 8 echoes or 6 singers: this number;");
        Doc.says(2, "Lets a room come. Returns its number.");
        EchoCouncil x = new EchoCouncil();
        for (int room = 0; room < 6; room++) {
            Due.same("the number of a room", room, x.room(9 - room));
            Due.same("its size", 9 - room, x.roomOf(room, 0));
        }
        Due.onlyRefused("a seventh room of size 1", SIX_ROOMS, 1, 6, y -> y.room(1));
        Due.onlyRefused("a seventh room of size 9", SIX_ROOMS, 1, 6, y -> y.room(9));
        Due.same("rooms", 6, Due.after(SIX_ROOMS).account(0));
    }

    private static void roomInOrder() {
        Doc.says("Refusals", "Something is refused for the first that applies of the reasons that its method names,"
            + " in the order in which it names them, with a detail:");
        Due.onlyRefused("room: 3 ahead of 1, too small", SIX_ROOMS, 3, 0, x -> x.room(0));
        Due.onlyRefused("room: 3 ahead of 1, too large", SIX_ROOMS, 3, 10, x -> x.room(10));
    }

    private static void roomOfEcho() {
        Doc.says("Refusals", "2, there is no such room, echo or singer: its number;");
        Doc.says(3, "if it is refused for the reason 2, 3 or 1; the reason is kept");
        for (int room : new int[] {2, -1, 6, LEAST, GREATEST}) {
            Due.onlyRefused("echo(" + room + ", 5)", "room 1;room 1", 2, room, x -> x.echo(room, 5));
        }
        Due.onlyRefused("echo(0, 5) without rooms", "singer 0 0", 2, 0, x -> x.echo(0, 5));
        EchoCouncil x = Due.after("room 1;room 1");
        Due.same("echo into the last room", 0, x.echo(1, 5));
        Due.same("its room", 1, x.echoOf(0, 0));
    }

    private static void strengthOfEcho() {
        Doc.says("Echoes", "An echo has a strength from 1 to 9, and is in one room;");
        for (int strength : new int[] {0, 10, -1, LEAST, GREATEST}) {
            Due.onlyRefused("echo(0, " + strength + ")", "room 1", 3, strength, x -> x.echo(0, strength));
        }
        for (int strength = 1; strength <= 9; strength++) {
            EchoCouncil x = Due.after("room 1");
            Due.same("echo(0, " + strength + ")", 0, x.echo(0, strength));
            Due.same("the strength of it", strength, x.echoOf(0, 1));
        }
    }

    private static void mostEchoes() {
        Doc.says("Echoes", "At most 8 echoes are there, numbered from 0.");
        Doc.says(3, "Lets an echo come into a room. Returns its number.");
        EchoCouncil x = Due.after("room 1;room 1");
        for (int echo = 0; echo < 8; echo++) {
            Due.same("the number of an echo", echo, x.echo(echo % 2, 9 - echo));
            Due.same("its room", echo % 2, x.echoOf(echo, 0));
            Due.same("its strength", 9 - echo, x.echoOf(echo, 1));
        }
        Due.onlyRefused("a ninth echo of strength 1", EIGHT_ECHOES, 1, 8, y -> y.echo(0, 1));
        Due.onlyRefused("a ninth echo of strength 9", EIGHT_ECHOES, 1, 8, y -> y.echo(1, 9));
        Due.same("echoes", 8, Due.after(EIGHT_ECHOES).account(1));
    }

    private static void echoInOrder() {
        Due.onlyRefused("echo: 2 ahead of 3", "room 1", 2, 1, x -> x.echo(1, 0));
        Due.onlyRefused("echo: 2 ahead of 1", EIGHT_ECHOES, 2, 2, x -> x.echo(2, 1));
        Due.onlyRefused("echo: 3 ahead of 1, too small", EIGHT_ECHOES, 3, 0, x -> x.echo(0, 0));
        Due.onlyRefused("echo: 3 ahead of 1, too large", EIGHT_ECHOES, 3, 10, x -> x.echo(0, 10));
    }

    private static void shynessOfSinger() {
        Doc.says("Singers", "A singer is shy from 0 to 9");
        Doc.says(4, "if it is refused for the reason 3 or 1; the reason is kept");
        for (int shyness : new int[] {-1, 10, LEAST, GREATEST}) {
            Due.onlyRefused("singer(" + shyness + ", 5)", "room 1", 3, shyness, x -> x.singer(shyness, 5));
        }
        for (int shyness = 0; shyness <= 9; shyness++) {
            EchoCouncil x = new EchoCouncil();
            Due.same("singer(" + shyness + ", 5)", 0, x.singer(shyness, 5));
            Due.same("the shyness", shyness, x.singerOf(0, 0));
        }
    }

    private static void breathOfSinger() {
        Doc.says("Singers", "has breath from 0 to 99");
        for (int breath : new int[] {-1, 100, LEAST, GREATEST}) {
            Due.onlyRefused("singer(5, " + breath + ")", "room 1", 3, breath, x -> x.singer(5, breath));
        }
        for (int breath = 0; breath <= 99; breath++) {
            EchoCouncil x = new EchoCouncil();
            Due.same("singer(5, " + breath + ")", 0, x.singer(5, breath));
            Due.same("the breath", breath, x.singerOf(0, 1));
        }
    }

    private static void mostSingers() {
        Doc.says("Singers", "At most 6 singers are there, numbered from 0.");
        Doc.says(4, "Lets a singer come.");
        Doc.says(4, "Returns the number.");
        EchoCouncil x = new EchoCouncil();
        for (int singer = 0; singer < 6; singer++) {
            Due.same("the number of a singer", singer, x.singer(singer, 90 + singer));
            Due.same("the shyness", singer, x.singerOf(singer, 0));
            Due.same("the breath", 90 + singer, x.singerOf(singer, 1));
        }
        Due.onlyRefused("a seventh singer, least", SIX_SINGERS, 1, 6, y -> y.singer(0, 0));
        Due.onlyRefused("a seventh singer, greatest", SIX_SINGERS, 1, 6, y -> y.singer(9, 99));
        Due.same("singers", 6, Due.after(SIX_SINGERS).account(2));
    }

    private static void singerInOrder() {
        Due.onlyRefused("singer: the shyness ahead of the breath", "", 3, 10, x -> x.singer(10, 100));
        Due.onlyRefused("singer: the same below", "", 3, -1, x -> x.singer(-1, -2));
        Due.onlyRefused("singer: 3 ahead of 1, shyness", SIX_SINGERS, 3, 10, x -> x.singer(10, 0));
        Due.onlyRefused("singer: 3 ahead of 1, breath", SIX_SINGERS, 3, 100, x -> x.singer(0, 100));
    }

    private static void enterByNobody() {
        Doc.says(5, "if it is refused for the reason 2, for the singer, then for the room, 4, 5 or 6; the reason is kept");
        for (int singer : new int[] {2, -1, 6, LEAST, GREATEST}) {
            Due.onlyRefused("enter(" + singer + ", 0)", "room 9;singer 0 0;singer 0 0", 2, singer, x -> x.enter(singer, 0));
        }
        Due.onlyRefused("enter(0, 0) without singers", "room 9", 2, 0, x -> x.enter(0, 0));
        Due.same("the last singer enters", 1, Due.after("room 9;singer 0 0;singer 0 0").enter(1, 0));
    }

    // A singer who is outside is in no room, also in none of the number -1.
    private static void enterNoRoom() {
        String two = "room 9;room 9;singer 0 0;singer 0 0;enter 1 1";
        for (int room : new int[] {2, -1, 6, LEAST, GREATEST}) {
            Due.onlyRefused("enter(0, " + room + ") from outside", two, 2, room, x -> x.enter(0, room));
            Due.onlyRefused("enter(1, " + room + ") from a room", two, 2, room, x -> x.enter(1, room));
        }
        Due.onlyRefused("enter(0, 0) without rooms", "singer 0 0", 2, 0, x -> x.enter(0, 0));
        Due.same("enter the last room", 2, Due.after(two).enter(0, 1));
    }

    private static void enterThereAlready() {
        Doc.says("Refusals", "4, it is there already: the room;");
        String alone = "room 9;room 9;singer 0 0;singer 0 0;enter 1 1";
        Due.onlyRefused("enter one's own room", alone, 4, 1, x -> x.enter(1, 1));
        Due.same("enter the other one", 1, Due.after(alone).enter(1, 0));
    }

    private static void enterFullRoom() {
        Doc.says("Rooms", "which is how many singers can be in it");
        Doc.says("Refusals", "5, the room is full: its size;");
        String singers = ";singer 0 0;singer 0 0;singer 0 0;singer 0 0;singer 0 0";
        StringBuilder entered = new StringBuilder();
        for (int size = 1; size <= 4; size++) {
            EchoCouncil x = Due.after("room " + size + singers + entered);
            Due.same("the last place of " + size, size, x.enter(size - 1, 0));
            entered.append(";enter ").append(size - 1).append(" 0");
            Due.onlyRefused("a room full of " + size, "room " + size + singers + entered, 5, size, y -> y.enter(4, 0));
        }
        Due.onlyRefused("four in a room of five: not full", "room 5" + singers + entered, 6, 4, y -> y.enter(4, 0));
        EchoCouncil x = Due.after("room 1;singer 0 0;singer 0 0;enter 0 0;out 0");
        Due.same("a place that got free", 1, x.enter(1, 0));
    }

    // Of shyness 0 to 9 what lacks to 9 is 9 to 0, so these are the most others.
    private static void enterTooManyOthers() {
        Doc.says("Singers", "A singer does not enter a room in which more others are than a third of what the shyness lacks to 9.");
        Doc.says("Refusals", "6, too many others are there for the singer: how many;");
        Doc.says("Terms", "All divisions are rounded down, unless something else is told.");
        int[] most = {3, 2, 2, 2, 1, 1, 1, 0, 0, 0};
        for (int shyness = 0; shyness <= 9; shyness++) {
            for (int others = 0; others <= 4; others++) {
                StringBuilder orders = new StringBuilder("room 9;singer " + shyness + " 0");
                for (int other = 1; other <= others; other++) {
                    orders.append(";singer 0 0;enter ").append(other).append(" 0");
                }
                if (others <= most[shyness]) {
                    Due.same("shy " + shyness + " to " + others, others + 1, Due.after(orders.toString()).enter(0, 0));
                } else {
                    Due.onlyRefused("shy " + shyness + " to " + others, orders.toString(), 6, others, x -> x.enter(0, 0));
                }
            }
        }
        EchoCouncil x = Due.after("room 9;room 9;singer 9 0;singer 0 0;singer 0 0;enter 1 1;enter 2 1");
        Due.same("those in another room do not count", 1, x.enter(0, 0));
    }

    private static void enterInOrder() {
        Due.onlyRefused("enter: the singer ahead of the room", "room 1;singer 0 0", 2, 7, x -> x.enter(7, 8));
        Due.onlyRefused("enter: 4 ahead of 5", "room 2;room 1;singer 0 0;enter 0 1", 4, 1, x -> x.enter(0, 1));
        String shyOneFirst = "room 2;room 9;singer 9 0;singer 0 0;singer 0 0;enter 0 1;enter 1 1;enter 2 1";
        Due.onlyRefused("enter: 4 ahead of 6", shyOneFirst, 4, 1, x -> x.enter(0, 1));
        String full = "room 2;singer 9 0;singer 0 0;singer 0 0;enter 1 0;enter 2 0";
        Due.onlyRefused("enter: 5 ahead of 6", full, 5, 2, x -> x.enter(0, 0));
    }

    private static void outByNobody() {
        Doc.says(6, "if it is refused for the reason 2 or 10; the reason is kept");
        for (int singer : new int[] {2, -1, 6, LEAST, GREATEST}) {
            Due.onlyRefused("out(" + singer + ")", "room 9;singer 0 0;singer 0 0;enter 0 0;enter 1 0", 2, singer, x -> x.out(singer));
        }
        Due.onlyRefused("out(0) without singers", "room 9", 2, 0, x -> x.out(0));
    }

    private static void outFromOutside() {
        Doc.says("Refusals", "10, the singer is outside: the singer;");
        Due.onlyRefused("out of one who came", "room 9;singer 0 5;singer 0 5;enter 0 0", 10, 1, x -> x.out(1));
        Due.onlyRefused("out again", "room 9;singer 0 5;singer 0 5;enter 1 0;out 1", 10, 1, x -> x.out(1));
    }

    private static void carryNoEcho() {
        Doc.says(7, "if it is refused for the reason 2, for the echo, then for the room, 4 or 7; the reason is kept");
        for (int echo : new int[] {2, -1, 8, LEAST, GREATEST}) {
            Due.onlyRefused("carry(" + echo + ", 0)", "room 9;room 9;echo 1 1;echo 1 1", 2, echo, x -> x.carry(echo, 0));
        }
        Due.onlyRefused("carry(0, 0) without echoes", "room 9", 2, 0, x -> x.carry(0, 0));
    }

    private static void carryToNoRoom() {
        for (int room : new int[] {2, -1, 6, LEAST, GREATEST}) {
            Due.onlyRefused("carry(0, " + room + ")", "room 9;room 9;echo 1 1", 2, room, x -> x.carry(0, room));
        }
    }

    private static void carryThereAlready() {
        Due.onlyRefused("carry to its room", "room 9;room 9;echo 0 1;echo 1 1", 4, 1, x -> x.carry(1, 1));
        Due.onlyRefused("carry again", "room 9;room 9;echo 0 1;carry 0 1", 4, 1, x -> x.carry(0, 1));
    }

    private static void carryLetEcho() {
        Doc.says("Echoes", "one that is not let can be carried to another one.");
        Doc.says("Refusals", "7, the echo is let: to whom;");
        String let = "room 9;room 9;echo 0 1;echo 0 2;singer 0 9;singer 0 9;enter 0 0;enter 1 0;rent 0 0 1;rent 1 1 2";
        Due.onlyRefused("carry one let to 0", let, 7, 0, x -> x.carry(0, 1));
        Due.onlyRefused("carry one let to 1", let, 7, 1, x -> x.carry(1, 1));
        Due.onlyRefused("carry one whose singer left", let + ";out 1", 7, 1, x -> x.carry(1, 1));
        Due.same("carry one that was given back", 0, Due.after(let + ";back 1 1").carry(1, 1));
        Due.same("carry one whose letting ended", 0, Due.after(let + ";sing 0").carry(0, 1));
    }

    private static void carryInOrder() {
        Due.onlyRefused("carry: the echo ahead of the room", "room 1;echo 0 1", 2, 7, x -> x.carry(7, 8));
        String let = "room 9;room 9;echo 1 1;singer 0 9;enter 0 1;rent 0 0 1";
        Due.onlyRefused("carry: 4 ahead of 7", let, 4, 1, x -> x.carry(0, 1));
    }

    private static void rentByNobody() {
        Doc.says(8, "if it is refused for the reason 2, for the singer, then for the echo, 3, 7, 8 or 9; the reason is kept");
        for (int singer : new int[] {2, -1, 6, LEAST, GREATEST}) {
            Due.onlyRefused("rent(" + singer + ", 0, 1)", "room 9;echo 0 1;singer 0 9;singer 0 9", 2, singer, x -> x.rent(singer, 0, 1));
        }
    }

    private static void rentNoEcho() {
        for (int echo : new int[] {2, -1, 8, LEAST, GREATEST}) {
            Due.onlyRefused("rent(0, " + echo + ", 1)", "room 9;echo 0 1;echo 0 1;singer 0 9;enter 0 0", 2, echo, x -> x.rent(0, echo, 1));
        }
        Due.onlyRefused("rent(0, 0, 1) without echoes", "room 9;singer 0 9;enter 0 0", 2, 0, x -> x.rent(0, 0, 1));
    }

    private static void versesOfRent() {
        Doc.says("Letting", "A singer can rent an echo that is in the same room and not let, for from 1 to 9 verses.");
        String hall = "room 9;echo 0 1;singer 0 9;enter 0 0";
        for (int verses : new int[] {0, 10, -1, LEAST, GREATEST}) {
            Due.onlyRefused("rent(0, 0, " + verses + ")", hall, 3, verses, x -> x.rent(0, 0, verses));
        }
        for (int verses = 1; verses <= 9; verses++) {
            EchoCouncil x = Due.after(hall);
            Due.same("rent(0, 0, " + verses + ")", 1, x.rent(0, 0, verses));
            Due.same("the verses of it", verses, x.echoOf(0, 3));
        }
    }

    private static void rentLetEcho() {
        String let = "room 9;echo 0 1;singer 0 9;singer 0 9;enter 0 0;enter 1 0;rent 1 0 1";
        Due.onlyRefused("rent one let to another", let, 7, 1, x -> x.rent(0, 0, 1));
        Due.onlyRefused("rent one's own", let, 7, 1, x -> x.rent(1, 0, 1));
        Due.same("rent one that was given back", 1, Due.after(let + ";back 1 0").rent(0, 0, 1));
        Due.same("rent one whose letting ended", 1, Due.after(let + ";sing 1").rent(0, 0, 1));
    }

    private static void rentFromElsewhere() {
        Doc.says("Refusals", "8, the singer is not in the room of the echo: this room;");
        String hall = "room 9;room 9;echo 1 1;singer 0 9;singer 0 9;enter 1 0";
        Due.onlyRefused("rent from outside", hall, 8, 1, x -> x.rent(0, 0, 1));
        Due.onlyRefused("rent from another room", hall, 8, 1, x -> x.rent(1, 0, 1));
        Due.same("rent from the same room", 1, Due.after(hall + ";enter 1 1").rent(1, 0, 1));
        Due.same("rent one that was carried there", 1, Due.after(hall + ";carry 0 0").rent(1, 0, 1));
    }

    private static void rentWithTooLittleBreath() {
        Doc.says("Refusals", "9, there is too little breath: how much;");
        for (int strength = 1; strength <= 9; strength++) {
            String hall = "room 9;echo 0 " + strength + ";singer 0 " + (strength - 1) + ";singer 0 " + strength + ";enter 0 0;enter 1 0";
            Due.onlyRefused("rent " + strength + " with one too little", hall, 9, strength - 1, x -> x.rent(0, 0, 1));
            EchoCouncil x = Due.after(hall);
            Due.same("rent " + strength + " with all the breath", strength, x.rent(1, 0, 1));
            Due.same("breath after it", 0, x.singerOf(1, 1));
        }
    }

    private static void rentInOrder() {
        String hall = "room 9;room 9;echo 0 5;singer 0 9;singer 0 4;enter 0 0;enter 1 1";
        String let = hall + ";rent 0 0 1";
        Due.onlyRefused("rent: the singer ahead of the echo", hall, 2, 7, x -> x.rent(7, 8, 0));
        Due.onlyRefused("rent: the singer ahead of 3", hall, 2, 7, x -> x.rent(7, 0, 0));
        Due.onlyRefused("rent: the echo ahead of 3", hall, 2, 8, x -> x.rent(0, 8, 0));
        Due.onlyRefused("rent: 3 ahead of 7", let, 3, 10, x -> x.rent(0, 0, 10));
        Due.onlyRefused("rent: 3 ahead of 8 and 9", hall, 3, 0, x -> x.rent(1, 0, 0));
        Due.onlyRefused("rent: 7 ahead of 8 and 9", let, 7, 0, x -> x.rent(1, 0, 1));
        Due.onlyRefused("rent: 7 ahead of 9", let, 7, 0, x -> x.rent(0, 0, 1));
        Due.onlyRefused("rent: 8 ahead of 9", hall, 8, 0, x -> x.rent(1, 0, 1));
    }

    // An echo that is not let is let to no singer, also to none of the number -1.
    private static void backByNobody() {
        Doc.says(9, "if it is refused for the reason 2, for the singer, then for the echo, or 11; the reason is kept");
        for (int singer : new int[] {2, -1, 6, LEAST, GREATEST}) {
            Due.onlyRefused("back(" + singer + ", 0)", "room 9;echo 0 1;singer 0 9;singer 0 9", 2, singer, x -> x.back(singer, 0));
        }
    }

    private static void backOfNoEcho() {
        for (int echo : new int[] {1, -1, 8, LEAST, GREATEST}) {
            Due.onlyRefused("back(0, " + echo + ")", "room 9;echo 0 1;singer 0 9;enter 0 0;rent 0 0 1", 2, echo, x -> x.back(0, echo));
        }
    }

    private static void backOfEchoNotLetToSinger() {
        Doc.says("Refusals", "11, the echo is not let to this singer: to whom it is, -1 for nobody;");
        String hall = "room 9;echo 0 1;singer 0 9;singer 0 9;enter 0 0;enter 1 0";
        Due.onlyRefused("back of one let to nobody", hall, 11, -1, x -> x.back(1, 0));
        Due.onlyRefused("back of one let to 0", hall + ";rent 0 0 1", 11, 0, x -> x.back(1, 0));
        Due.onlyRefused("back of one let to 1", hall + ";rent 1 0 1", 11, 1, x -> x.back(0, 0));
        Due.onlyRefused("back again", hall + ";rent 1 0 1;back 1 0", 11, -1, x -> x.back(1, 0));
        Due.onlyRefused("back after the last verse", hall + ";rent 1 0 1;sing 1", 11, -1, x -> x.back(1, 0));
    }

    private static void backInOrder() {
        String hall = "room 9;echo 0 1;singer 0 9";
        Due.onlyRefused("back: the singer ahead of the echo", hall, 2, 7, x -> x.back(7, 8));
        Due.onlyRefused("back: the singer ahead of 11", hall, 2, 7, x -> x.back(7, 0));
    }

    private static void singByNobody() {
        Doc.says(10, "if it is refused for the reason 2, 10 or 9; the reason is kept");
        for (int singer : new int[] {2, -1, 6, LEAST, GREATEST}) {
            Due.onlyRefused("sing(" + singer + ")", "room 9;singer 0 9;singer 0 9;enter 0 0;enter 1 0", 2, singer, x -> x.sing(singer));
        }
    }

    private static void singOutside() {
        Due.onlyRefused("sing of one who came", "room 9;singer 0 9;singer 0 9;enter 0 0", 10, 1, x -> x.sing(1));
        Due.onlyRefused("sing of one who left", "room 9;singer 0 9;singer 0 9;enter 1 0;out 1", 10, 1, x -> x.sing(1));
    }

    private static void singWithoutBreath() {
        Doc.says("Verses", "A singer in a room sings a verse, which takes 1 breath.");
        Due.onlyRefused("sing with no breath", "room 9;singer 0 0;enter 0 0", 9, 0, x -> x.sing(0));
        Due.onlyRefused("sing with no breath left", "room 9;singer 0 1;enter 0 0;sing 0", 9, 0, x -> x.sing(0));
        Due.onlyRefused("sing with all breath in a deposit", "room 9;echo 0 9;singer 0 9;enter 0 0;rent 0 0 1", 9, 0, x -> x.sing(0));
        EchoCouncil x = Due.after("room 9;singer 0 1;enter 0 0");
        Due.same("sing with 1 breath", 0, x.sing(0));
        Due.same("breath after it", 0, x.singerOf(0, 1));
    }

    private static void singInOrder() {
        Due.onlyRefused("sing: 10 ahead of 9", "room 9;singer 0 0", 10, 0, x -> x.sing(0));
    }
}
