// Promises 1 to 11: a new object and what changes it.
public final class ChangeTests {
    private static final int LEAST = Integer.MIN_VALUE;
    private static final int GREATEST = Integer.MAX_VALUE;

    public static void main(String[] args) {
        newObject();
        room();
        echo();
        singer();
        enter();
        enterByShyness();
        enterFromRoom();
        out();
        carry();
        rent();
        rentRefused();
        back();
        backOfMuch();
        backOfDampRoom();
        sing();
        singToTheEnd();
        singForTheOthers();
        singRefused();
        night();
        Due.end();
    }

    private static void newObject() {
        EchoCouncil x = new EchoCouncil();
        Due.same("all of a new council", "0 0 0 0 0 0 0 0 0 0 0 0 | 0 0 \n\n\n", Due.all(x));
        Due.same("its fault position", -1, x.faultPosition());
        Due.same("its line", "", Due.line(x));
        Due.same("whether it is told", true, x.isTold());
        Due.thrown("its reason", Due.NO_ELEMENT, () -> x.reason(0, false));
        Due.thrown("its undo", Due.BAD_STATE, () -> x.undo());
        Due.thrown("its restore", Due.BAD_STATE, () -> x.restore());
    }

    private static void room() {
        EchoCouncil x = new EchoCouncil();
        Due.refused("room(0)", x, 3, 0, () -> x.room(0));
        Due.refused("room(10)", x, 3, 10, () -> x.room(10));
        Due.refused("room(-1)", x, 3, -1, () -> x.room(-1));
        Due.refused("room(least)", x, 3, LEAST, () -> x.room(LEAST));
        Due.refused("room(greatest)", x, 3, GREATEST, () -> x.room(GREATEST));
        Due.same("rooms after refusals", 0, x.account(0));
        Due.same("changes after refusals", 0, x.account(13));
        int[] sizes = {1, 9, 5, 2, 3, 4};
        for (int room = 0; room < 6; room++) {
            Due.same("a room's number", room, x.room(sizes[room]));
            Due.same("its size", sizes[room], x.roomOf(room, 0));
            Due.same("how damp it is at first", 0, x.roomOf(room, 1));
        }
        Due.refused("a seventh room", x, 1, 6, () -> x.room(1));
        Due.refused("a seventh room of no size", x, 3, 10, () -> x.room(10));
        Due.same("rooms", 6, x.account(0));
        Due.same("changes", 6, x.account(13));
    }

    private static void echo() {
        EchoCouncil x = new EchoCouncil();
        Due.refused("echo(0, 1) without rooms", x, 2, 0, () -> x.echo(0, 1));
        Due.refused("echo(-1, 0)", x, 2, -1, () -> x.echo(-1, 0));
        x.room(1);
        x.room(1);
        Due.refused("echo(2, 0)", x, 2, 2, () -> x.echo(2, 0));
        Due.refused("echo(1, 0)", x, 3, 0, () -> x.echo(1, 0));
        Due.refused("echo(1, 10)", x, 3, 10, () -> x.echo(1, 10));
        Due.refused("echo(1, least)", x, 3, LEAST, () -> x.echo(1, LEAST));
        for (int echo = 0; echo < 8; echo++) {
            int strength = echo + (echo == 0 ? 1 : 2);
            Due.same("an echo's number", echo, x.echo(echo % 2, strength));
            Due.same("its room", echo % 2, x.echoOf(echo, 0));
            Due.same("its strength", strength, x.echoOf(echo, 1));
            Due.same("to whom it is let at first", -1, x.echoOf(echo, 2));
        }
        Due.refused("a ninth echo", x, 1, 8, () -> x.echo(0, 1));
        Due.refused("a ninth echo without strength", x, 3, 0, () -> x.echo(0, 0));
        Due.refused("a ninth echo in no room", x, 2, 6, () -> x.echo(6, 1));
        Due.same("echoes", 8, x.account(1));
    }

    private static void singer() {
        EchoCouncil x = new EchoCouncil();
        Due.refused("singer(-1, 100)", x, 3, -1, () -> x.singer(-1, 100));
        Due.refused("singer(10, -1)", x, 3, 10, () -> x.singer(10, -1));
        Due.refused("singer(9, -1)", x, 3, -1, () -> x.singer(9, -1));
        Due.refused("singer(0, 100)", x, 3, 100, () -> x.singer(0, 100));
        Due.refused("singer(0, least)", x, 3, LEAST, () -> x.singer(0, LEAST));
        for (int singer = 0; singer < 6; singer++) {
            int shyness = singer == 0 ? 0 : singer + 4;
            int breath = singer == 0 ? 0 : 94 + singer;
            Due.same("a singer's number", singer, x.singer(shyness, breath));
            Due.same("the shyness", shyness, x.singerOf(singer, 0));
            Due.same("the breath", breath, x.singerOf(singer, 1));
            Due.same("the room at first", -1, x.singerOf(singer, 2));
        }
        Due.refused("a seventh singer", x, 1, 6, () -> x.singer(0, 0));
        Due.refused("a seventh singer, too shy", x, 3, 10, () -> x.singer(10, 0));
        Due.refused("a seventh singer, of too much breath", x, 3, 100, () -> x.singer(0, 100));
        Due.same("singers", 6, x.account(2));
    }

    private static void enter() {
        EchoCouncil x = new EchoCouncil();
        Due.refused("enter(0, 0) of nobody", x, 2, 0, () -> x.enter(0, 0));
        Due.refused("enter(-1, 7)", x, 2, -1, () -> x.enter(-1, 7));
        x.singer(0, 0);
        x.singer(0, 0);
        x.singer(0, 0);
        Due.refused("enter(3, 0)", x, 2, 3, () -> x.enter(3, 0));
        Due.refused("enter(0, 0) without rooms", x, 2, 0, () -> x.enter(0, 0));
        x.room(2);
        Due.refused("enter(0, 1)", x, 2, 1, () -> x.enter(0, 1));
        Due.refused("enter(0, -1)", x, 2, -1, () -> x.enter(0, -1));
        Due.same("the first one", 1, x.enter(1, 0));
        Due.same("the second one", 2, x.enter(2, 0));
        Due.refused("enter a full room again", x, 4, 0, () -> x.enter(2, 0));
        Due.refused("enter a full room", x, 5, 2, () -> x.enter(0, 0));
        Due.same("who are in it", 6, x.others(0));
        EchoCouncil y = Due.after("room 1;singer 0 0;singer 9 0;enter 0 0");
        Due.refused("a shy one enters a full room", y, 5, 1, () -> y.enter(1, 0));
    }

    // With a shyness s at most (9 - s) / 3 others may be there.
    private static void enterByShyness() {
        int[] mostOthers = {3, 2, 2, 2, 1, 1, 1, 0, 0, 0};
        for (int shyness = 0; shyness <= 9; shyness++) {
            EchoCouncil x = Due.after("room 9;singer 0 0;singer 0 0;singer 0 0;singer 0 0");
            x.singer(shyness, 0);
            int inside = 0;
            while (inside < mostOthers[shyness]) {
                x.enter(inside, 0);
                inside++;
            }
            Due.same("shy " + shyness + " to " + inside, inside + 1, x.enter(4, 0));
            x.out(4);
            int others = inside + 1;
            x.enter(inside, 0);
            Due.refused("shy " + shyness + " to one more", x, 6, others, () -> x.enter(4, 0));
            Due.same("where the shy one stays", -1, x.singerOf(4, 2));
        }
    }

    private static void enterFromRoom() {
        EchoCouncil x = Due.after("room 1;room 3;singer 0 0;singer 0 0;enter 0 0;enter 1 1");
        Due.same("enter another room", 2, x.enter(0, 1));
        Due.same("who are in the first one", 0, x.others(0));
        Due.same("who are in the other one", 3, x.others(1));
        Due.refused("enter it again", x, 4, 1, () -> x.enter(0, 1));
        Due.same("enter the first one again", 1, x.enter(1, 0));
        Due.refused("a full room from a room", x, 5, 1, () -> x.enter(0, 0));
        Due.same("where the refused one is", 1, x.singerOf(0, 2));
    }

    private static void out() {
        EchoCouncil x = Due.after("room 1;room 1;echo 1 5;singer 9 9");
        Due.refused("out of nobody", x, 2, 1, () -> x.out(1));
        Due.refused("out(-1)", x, 2, -1, () -> x.out(-1));
        Due.refused("out from outside", x, 10, 0, () -> x.out(0));
        x.enter(0, 1);
        x.rent(0, 0, 2);
        Due.same("out", 1, x.out(0));
        Due.same("the room after out", -1, x.singerOf(0, 2));
        Due.same("what is let stays so", 0, x.echoOf(0, 2));
        Due.refused("out again", x, 10, 0, () -> x.out(0));
    }

    private static void carry() {
        EchoCouncil x = new EchoCouncil();
        Due.refused("carry(0, 0)", x, 2, 0, () -> x.carry(0, 0));
        Due.does(x, "room 1;room 1;echo 0 5;singer 9 9;singer 9 9;enter 1 1");
        Due.refused("carry(-1, 2)", x, 2, -1, () -> x.carry(-1, 2));
        Due.refused("carry(1, 2)", x, 2, 1, () -> x.carry(1, 2));
        Due.refused("carry(0, 2)", x, 2, 2, () -> x.carry(0, 2));
        Due.refused("carry(0, -1)", x, 2, -1, () -> x.carry(0, -1));
        Due.refused("carry(0, 0)", x, 4, 0, () -> x.carry(0, 0));
        Due.same("carry", 0, x.carry(0, 1));
        Due.same("its room", 1, x.echoOf(0, 0));
        x.rent(1, 0, 1);
        Due.refused("carry one that is let", x, 7, 1, () -> x.carry(0, 0));
        Due.refused("carry one that is let to where it is", x, 4, 1, () -> x.carry(0, 1));
        x.back(1, 0);
        Due.same("carry it back", 1, x.carry(0, 0));
    }

    private static void rent() {
        EchoCouncil x = Due.after("room 2;echo 0 7;echo 0 3;singer 0 10;enter 0 0");
        Due.same("rent", 7, x.rent(0, 0, 9));
        Due.same("the breath", 3, x.singerOf(0, 1));
        Due.same("to whom it is let", 0, x.echoOf(0, 2));
        Due.same("its verses", 9, x.echoOf(0, 3));
        Due.same("rent for all the breath", 3, x.rent(0, 1, 1));
        Due.same("the breath then", 0, x.singerOf(0, 1));
        Due.same("the deposits", 10, x.account(8));
        Due.same("the deposits held", 10, x.account(11));
        Due.same("the deposits held of the singer", 10, x.singerOf(0, 6));
    }

    private static void rentRefused() {
        EchoCouncil x = new EchoCouncil();
        Due.refused("rent(0, 0, 0)", x, 2, 0, () -> x.rent(0, 0, 0));
        Due.does(x, "room 3;room 3;echo 0 7;singer 0 6;singer 0 30;enter 0 1");
        Due.refused("rent(-1, 9, 0)", x, 2, -1, () -> x.rent(-1, 9, 0));
        Due.refused("rent(2, 1, 0)", x, 2, 2, () -> x.rent(2, 1, 0));
        Due.refused("rent(0, 1, 0)", x, 2, 1, () -> x.rent(0, 1, 0));
        Due.refused("rent(0, -1, 0)", x, 2, -1, () -> x.rent(0, -1, 0));
        Due.refused("rent(0, 0, 0)", x, 3, 0, () -> x.rent(0, 0, 0));
        Due.refused("rent(0, 0, 10)", x, 3, 10, () -> x.rent(0, 0, 10));
        Due.refused("rent(0, 0, least)", x, 3, LEAST, () -> x.rent(0, 0, LEAST));
        Due.refused("rent from another room", x, 8, 0, () -> x.rent(0, 0, 1));
        Due.refused("rent from outside", x, 8, 0, () -> x.rent(1, 0, 1));
        x.enter(0, 0);
        Due.refused("rent with too little breath", x, 9, 6, () -> x.rent(0, 0, 1));
        x.enter(1, 0);
        x.rent(1, 0, 1);
        Due.refused("rent one that is let", x, 7, 1, () -> x.rent(0, 0, 1));
        Due.refused("rent one's own", x, 7, 1, () -> x.rent(1, 0, 1));
        Due.refused("rent one that is let for no verses", x, 3, 0, () -> x.rent(0, 0, 0));
        x.out(0);
        Due.refused("rent one that is let from outside", x, 7, 1, () -> x.rent(0, 0, 1));
        Due.same("the deposits", 7, x.account(8));
    }

    private static void back() {
        EchoCouncil x = new EchoCouncil();
        Due.refused("back(0, 0)", x, 2, 0, () -> x.back(0, 0));
        Due.does(x, "room 3;room 3;echo 0 7;singer 0 20;singer 0 30");
        Due.refused("back(2, 1)", x, 2, 2, () -> x.back(2, 1));
        Due.refused("back(-1, 1)", x, 2, -1, () -> x.back(-1, 1));
        Due.refused("back(0, 1)", x, 2, 1, () -> x.back(0, 1));
        Due.refused("back(0, -1)", x, 2, -1, () -> x.back(0, -1));
        Due.refused("back of one that is not let", x, 11, -1, () -> x.back(0, 0));
        Due.does(x, "enter 1 0;rent 1 0 9;sing 1;sing 1");
        Due.refused("back of one let to another", x, 11, 1, () -> x.back(0, 0));
        Due.same("breath ahead of back", 21, x.singerOf(1, 1));
        x.out(1);
        Due.same("back from outside, in a damp room", 5, x.back(1, 0));
        Due.same("breath after back", 26, x.singerOf(1, 1));
        Due.same("to whom it is let", -1, x.echoOf(0, 2));
        Due.same("its verses", 0, x.echoOf(0, 3));
        Due.same("what was given back", 5, x.account(9));
        Due.same("what was kept", 2, x.account(10));
        Due.same("what is held", 0, x.account(11));
        Due.refused("back again", x, 11, -1, () -> x.back(1, 0));
    }

    private static void backOfMuch() {
        EchoCouncil x = Due.after("room 1;echo 0 9;singer 0 99;enter 0 0;rent 0 0 9;night;night");
        Due.same("breath ahead of back", 96, x.singerOf(0, 1));
        Due.same("back of more than 99", 9, x.back(0, 0));
        Due.same("breath after it", 99, x.singerOf(0, 1));
        Due.same("what was given back", 9, x.account(9));
        Due.same("what was kept", 0, x.account(10));
        Due.same("whether it is told", true, x.isTold());
    }

    private static void backOfDampRoom() {
        EchoCouncil x = Due.after("room 1;echo 0 2;singer 0 50;enter 0 0;rent 0 0 9;sing 0;sing 0;sing 0");
        Due.same("back in a room damper than it is strong", 0, x.back(0, 0));
        Due.same("breath", 45, x.singerOf(0, 1));
        Due.same("what was given back", 0, x.account(9));
        Due.same("what was kept", 2, x.account(10));
    }

    private static void sing() {
        EchoCouncil x = Due.after("room 2;room 2;echo 0 7;echo 0 3;echo 0 9;echo 1 8;singer 0 50;"
            + "enter 0 1;rent 0 3 9;enter 0 0;rent 0 0 2;rent 0 1 5");
        Due.same("the first verse", 10, x.sing(0));
        Due.same("breath after it", 31, x.singerOf(0, 1));
        Due.same("how damp then", 1, x.roomOf(0, 1));
        Due.same("verses of the echo", 1, x.echoOf(0, 3));
        Due.same("verses of one elsewhere", 9, x.echoOf(3, 3));
        Due.same("the second verse", 8, x.sing(0));
        Due.same("breath after a letting ended at damp 1", 36, x.singerOf(0, 1));
        Due.same("to whom it is let", -1, x.echoOf(0, 2));
        Due.same("its verses", 0, x.echoOf(0, 3));
        Due.same("its tones", 13, x.echoOf(0, 4));
        Due.same("tones of the other one", 5, x.echoOf(1, 4));
        Due.same("tones of the singer", 18, x.singerOf(0, 5));
        Due.same("verses of the singer", 2, x.singerOf(0, 4));
        Due.same("verses of the room", 2, x.roomOf(0, 5));
        Due.same("damp elsewhere", 0, x.roomOf(1, 1));
        Due.same("kept", 1, x.account(10));
        Due.same("given back", 6, x.account(9));
    }

    // An echo that returns no tones has a verse less too, and damp ends at 9.
    private static void singToTheEnd() {
        EchoCouncil x = Due.after("room 2;echo 0 9;echo 0 1;singer 0 99;enter 0 0;rent 0 0 9;rent 0 1 3");
        int[] tones = {10, 8, 7, 6, 5, 4, 3, 2, 1, 0, 0};
        int[] breath = {88, 87, 86, 85, 84, 83, 82, 81, 81, 80, 79};
        int[] damp = {1, 2, 3, 4, 5, 6, 7, 8, 9, 9, 9};
        int[] verses = {2, 1, 0, 0, 0, 0, 0, 0, 0, 0, 0};
        for (int verse = 0; verse < tones.length; verse++) {
            Due.same("verse " + verse, tones[verse], x.sing(0));
            Due.same("breath after verse " + verse, breath[verse], x.singerOf(0, 1));
            Due.same("damp after verse " + verse, damp[verse], x.roomOf(0, 1));
            Due.same("verses left after verse " + verse, verses[verse], x.echoOf(1, 3));
        }
        Due.same("kept", 9, x.account(10));
        Due.same("given back", 1, x.account(9));
        Due.same("held", 0, x.account(11));
        EchoCouncil y = Due.after("room 1;echo 0 9;singer 0 99;enter 0 0;rent 0 0 1;night;night;night");
        Due.same("breath ahead of the verse", 99, y.singerOf(0, 1));
        Due.same("a verse that ends the letting", 9, y.sing(0));
        Due.same("breath is 99 at most", 99, y.singerOf(0, 1));
        Due.same("what was given back", 9, y.account(9));
    }

    private static void singForTheOthers() {
        EchoCouncil x = Due.after("room 2;echo 0 7;echo 0 3;singer 0 50;singer 0 50;enter 0 0;enter 1 0;"
            + "rent 0 0 2;rent 1 1 2");
        Due.same("a verse of one", 7, x.sing(0));
        Due.same("verses of the other one's echo", 2, x.echoOf(1, 3));
        Due.same("a verse of the other one", 2, x.sing(1));
        Due.same("tones of the other one", 2, x.singerOf(1, 5));
        Due.same("damp by both", 2, x.roomOf(0, 1));
        Due.same("verses by both", 2, x.roomOf(0, 5));
    }

    private static void singRefused() {
        EchoCouncil x = new EchoCouncil();
        Due.refused("sing of nobody", x, 2, 0, () -> x.sing(0));
        Due.refused("sing(-1)", x, 2, -1, () -> x.sing(-1));
        Due.does(x, "room 1;singer 0 0");
        Due.refused("sing outside, without breath", x, 10, 0, () -> x.sing(0));
        x.enter(0, 0);
        Due.refused("sing without breath", x, 9, 0, () -> x.sing(0));
        Due.same("verses after refusals", 0, x.account(6));
        EchoCouncil y = Due.after("room 1;singer 0 1;enter 0 0");
        Due.same("sing with the last breath", 0, y.sing(0));
        Due.same("breath after it", 0, y.singerOf(0, 1));
        Due.refused("sing after it", y, 9, 0, () -> y.sing(0));
    }

    private static void night() {
        EchoCouncil x = new EchoCouncil();
        Due.same("a night of nobody", 0, x.night());
        Due.same("a change without a difference", 1, x.account(13));
        Due.does(x, "room 1;room 2;singer 0 95;singer 0 0;singer 0 99");
        Due.does(x, "enter 0 0;sing 0;sing 0;sing 0;enter 0 1;sing 0");
        Due.same("breath ahead of the night", 91, x.singerOf(0, 1));
        Due.same("a night", 6, x.night());
        Due.same("damp of the first room", 1, x.roomOf(0, 1));
        Due.same("damp of the second room", 0, x.roomOf(1, 1));
        Due.same("a night more", 6, x.night());
        Due.same("damp of the first room then", 0, x.roomOf(0, 1));
        Due.same("a third night", 5, x.night());
        Due.same("breath up to 99", 99, x.singerOf(0, 1));
        Due.same("breath of the second", 9, x.singerOf(1, 1));
        Due.same("a fourth night", 3, x.night());
        Due.same("the nights", 5, x.account(4));
    }
}
