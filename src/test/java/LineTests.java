// Promises 35 to 38: lines of text.
public final class LineTests {
    public static void main(String[] args) {
        tellRoom();
        tellEcho();
        tellSinger();
        character();
        Due.end();
    }

    private static void told(String due, int length, EchoCouncil x) {
        Due.same("the length of " + due, due.length(), length);
        Due.same("the line", due, Due.line(x));
    }

    private static void tellRoom() {
        EchoCouncil x = Due.after("room 5;room 9;echo 0 9;echo 1 2;echo 0 8;singer 0 99;singer 0 50;enter 1 0");
        told("0[5~0]02s1", x.tellRoom(0), x);
        told("1[9~0]1", x.tellRoom(1), x);
        Due.does(x, "rent 1 2 9;enter 0 0;sing 0;sing 0;sing 0");
        told("0[5~3]02*s0s1", x.tellRoom(0), x);
        Due.thrown("tellRoom(2)", Due.NO_INDEX, () -> x.tellRoom(2));
        Due.thrown("tellRoom(-1)", Due.NO_INDEX, () -> x.tellRoom(-1));
        told("0[5~3]02*s0s1", 13, x);
        Due.does(x, "out 1;out 0;back 1 2");
        told("0[5~3]02", x.tellRoom(0), x);
        EchoCouncil y = Due.after("room 9;singer 0 99");
        told("0[9~0]", y.tellRoom(0), y);
    }

    // The document's own line.
    private static void tellRoomAsInDocument() {
        EchoCouncil x = Due.after("room 5;room 1;echo 0 9;echo 1 9;echo 0 9;echo 1 9;echo 1 9;echo 1 9;"
            + "echo 1 9;echo 0 9;singer 0 9;singer 0 99;singer 0 9;singer 0 9;singer 0 9;"
            + "enter 1 0;enter 4 0;rent 1 2 9;sing 4;sing 4;sing 4");
        told("0[5~3]02*7s1s4", x.tellRoom(0), x);
    }

    private static void tellEcho() {
        tellRoomAsInDocument();
        EchoCouncil x = Due.after("room 5;room 5;echo 0 1;echo 1 9;echo 0 7;singer 0 0;singer 3 20;enter 1 0");
        told("0^1@0", x.tellEcho(0), x);
        told("1^9@1", x.tellEcho(1), x);
        told("2^7@0", x.tellEcho(2), x);
        x.rent(1, 2, 5);
        told("2^7@0=1/5", x.tellEcho(2), x);
        x.sing(1);
        told("2^7@0=1/4", x.tellEcho(2), x);
        Due.thrown("tellEcho(3)", Due.NO_INDEX, () -> x.tellEcho(3));
        Due.thrown("tellEcho(-1)", Due.NO_INDEX, () -> x.tellEcho(-1));
        told("2^7@0=1/4", 9, x);
        x.back(1, 2);
        told("2^7@0", x.tellEcho(2), x);
    }

    private static void tellSinger() {
        EchoCouncil x = Due.after("room 5;room 1;singer 9 0;singer 3 20");
        told("0!9%0", x.tellSinger(0), x);
        told("1!3%20", x.tellSinger(1), x);
        x.enter(1, 0);
        told("1!3%20@0", x.tellSinger(1), x);
        x.enter(1, 1);
        told("1!3%20@1", x.tellSinger(1), x);
        Due.thrown("tellSinger(2)", Due.NO_INDEX, () -> x.tellSinger(2));
        Due.thrown("tellSinger(-1)", Due.NO_INDEX, () -> x.tellSinger(-1));
        told("1!3%20@1", 8, x);
    }

    private static void character() {
        EchoCouncil x = new EchoCouncil();
        Due.thrown("character(0) of an empty line", Due.NO_INDEX, () -> x.character(0));
        Due.does(x, "room 5;singer 3 20");
        x.tellSinger(0);
        Due.same("character(0)", '0', x.character(0));
        Due.same("character(1)", '!', x.character(1));
        Due.same("character(5)", '0', x.character(5));
        Due.thrown("character(6)", Due.NO_INDEX, () -> x.character(6));
        Due.thrown("character(-1)", Due.NO_INDEX, () -> x.character(-1));
        Due.thrown("character(least)", Due.NO_INDEX, () -> x.character(Integer.MIN_VALUE));
        Due.thrown("character(greatest)", Due.NO_INDEX, () -> x.character(Integer.MAX_VALUE));
        x.undo();
        Due.same("the line stays when a change is undone", "0!3%20", Due.line(x));
        x.save();
        x.restore();
        Due.same("the line stays when all is restored", "0!3%20", Due.line(x));
        x.tellRoom(0);
        Due.same("a line of the same length", "0[5~0]", Due.line(x));
    }
}
