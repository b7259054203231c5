// Promises 42 to 44: undo, save and restore.
public final class UndoTests {
    public static void main(String[] args) {
        undoEachKind();
        undoLatestEight();
        undoAndChange();
        undoOfWhatThrew();
        whatStays();
        newOnesAfterUndo();
        save();
        restore();
        restoreOverOthers();
        Due.end();
    }

    private static void undoEachKind() {
        String[] orders = {"room 5", "room 2", "echo 0 7", "singer 3 20", "singer 0 99", "enter 0 0", "rent 0 0 4", "sing 0", "sing 0", "enter 0 1", "out 0", "back 0 0", "carry 0 1", "night", "night"};
        for (int count = 0; count < orders.length; count++) {
            EchoCouncil x = new EchoCouncil();
            for (int order = 0; order < count; order++) {
                Due.does(x, orders[order]);
            }
            String ahead = Due.state(x);
            Due.does(x, orders[count]);
            Due.same(orders[count] + " is different", false, ahead.equals(Due.state(x)));
            Due.same("undo of " + orders[count], Math.min(7, count), x.undo());
            Due.same("the state after it", ahead, Due.state(x));
        }
    }

    private static void undoLatestEight() {
        EchoCouncil x = new EchoCouncil();
        Due.thrown("undo of nothing", Due.BAD_STATE, () -> x.undo());
        x.singer(0, 0);
        for (int night = 0; night < 11; night++) {
            x.night();
        }
        for (int left = 7; left >= 0; left--) {
            Due.same("undo", left, x.undo());
            Due.same("changes that can be undone", left, x.account(13));
            Due.same("the nights then", left + 3, x.account(4));
            Due.same("the breath then", 3 * (left + 3), x.singerOf(0, 1));
        }
        Due.thrown("undo of a ninth", Due.BAD_STATE, () -> x.undo());
        Due.same("the nights stay", 3, x.account(4));
    }

    private static void undoAndChange() {
        EchoCouncil x = Due.after("singer 0 0;night;night;night");
        Due.same("undo", 3, x.undo());
        Due.same("undo again", 2, x.undo());
        x.room(4);
        Due.same("changes after a new one", 3, x.account(13));
        Due.same("undo of the new one", 2, x.undo());
        Due.same("rooms", 0, x.account(0));
        Due.same("nights", 1, x.account(4));
        Due.same("undo further", 1, x.undo());
        Due.same("nights further", 0, x.account(4));
        Due.same("undo of the first", 0, x.undo());
        Due.same("singers", 0, x.account(2));
        Due.thrown("undo of nothing", Due.BAD_STATE, () -> x.undo());
    }

    private static void undoOfWhatThrew() {
        EchoCouncil x = Due.after("room 1;night");
        Due.thrown("room(0)", Due.REFUSED, () -> x.room(0));
        Due.type(x, "night;room 0");
        Due.thrown("run of a refused order", Due.REFUSED, () -> x.run());
        Due.type(x, "night;room");
        Due.thrown("run of a fault", Due.BAD_ARGUMENT, () -> x.run());
        Due.same("changes", 2, x.account(13));
        Due.same("undo is of the night", 1, x.undo());
        Due.same("nights", 0, x.account(4));
        Due.same("rooms", 1, x.account(0));
    }

    private static void whatStays() {
        EchoCouncil x = Due.after("room 1");
        x.tellRoom(0);
        x.save();
        Due.type(x, "roum");
        Due.thrown("run", Due.BAD_ARGUMENT, () -> x.run());
        Due.thrown("sing(4)", Due.REFUSED, () -> x.sing(4));
        x.night();
        Due.type(x, "night");
        x.undo();
        Due.same("the input stays", 5, x.account(12));
        Due.same("the fault position stays", 2, x.faultPosition());
        Due.same("the reason stays", 4, x.reason(0, true));
        Due.same("the line stays", "0[1~0]", Due.line(x));
        x.undo();
        Due.same("the rooms", 0, x.account(0));
        Due.same("the line stays further", "0[1~0]", Due.line(x));
        Due.same("what was saved stays", 0, x.restore());
        Due.same("the rooms then", 1, x.account(0));
        Due.same("the input stays by restore", 5, x.account(12));
        Due.same("the fault position stays by restore", 2, x.faultPosition());
        Due.same("the reason stays by restore", 4, x.reason(0, true));
        Due.same("the input is a text yet", 1, x.run());
    }

    // A number that is used again starts anew.
    private static void newOnesAfterUndo() {
        EchoCouncil x = new EchoCouncil();
        Due.run(x, "room 5;echo 0 9;singer 0 99;enter 0 0;rent 0 0 9;sing 0");
        x.sing(0);
        x.undo();
        x.undo();
        x.room(3);
        x.echo(0, 4);
        x.singer(5, 6);
        String due = "1 1 1 0 0 0 0 0 0 0 0 0 \nroom0 3 0 0 1 0 0\n\necho0 0 4 -1 0 0\n\nsinger0 5 6 -1 0 0 0 0\n";
        Due.same("new ones", due, Due.state(x));
        EchoCouncil y = new EchoCouncil();
        y.save();
        Due.run(y, "room 5;echo 0 9;singer 0 99;enter 0 0;rent 0 0 9;sing 0");
        y.restore();
        y.room(3);
        y.echo(0, 4);
        y.singer(5, 6);
        Due.same("new ones after restore", due, Due.state(y));
    }

    private static void save() {
        EchoCouncil x = new EchoCouncil();
        Due.same("save of nothing", 0, x.save());
        Due.does(x, "room 5;echo 0 9;echo 0 8");
        Due.same("save", 2, x.save());
        Due.same("save is no change", 3, x.account(13));
        Due.same("undo after save", 2, x.undo());
        Due.same("the echoes", 1, x.account(1));
        Due.same("restore", 2, x.restore());
        Due.same("the echoes then", 2, x.account(1));
    }

    private static void restore() {
        EchoCouncil x = new EchoCouncil();
        Due.thrown("restore of nothing", Due.BAD_STATE, () -> x.restore());
        Due.does(x, "room 5;echo 0 9;singer 0 50;enter 0 0;rent 0 0 3;sing 0;night");
        Due.thrown("restore of nothing yet", Due.BAD_STATE, () -> x.restore());
        String saved = Due.state(x);
        x.save();
        Due.does(x, "sing 0;sing 0;out 0;night;room 4;echo 1 4;singer 9 9");
        Due.same("restore", 1, x.restore());
        Due.same("the state", saved, Due.state(x));
        Due.same("changes that can be undone", 0, x.account(13));
        Due.thrown("undo after restore", Due.BAD_STATE, () -> x.undo());
        Due.does(x, "sing 0;back 0 0");
        Due.same("undo of a change after it", 1, x.undo());
        Due.same("restore again", 1, x.restore());
        Due.same("the state again", saved, Due.state(x));
        Due.does(x, "night;night");
        Due.same("save in place of it", 1, x.save());
        x.night();
        x.restore();
        Due.same("the nights", 3, x.account(4));
    }

    // Rooms, echoes and singers of the same numbers that came instead are replaced.
    private static void restoreOverOthers() {
        EchoCouncil x = new EchoCouncil();
        Due.run(x, "room 5;echo 0 9;singer 0 50;enter 0 0;rent 0 0 3;sing 0");
        String first = Due.state(x);
        x.save();
        x.undo();
        Due.run(x, "room 2;room 3;echo 1 1;echo 0 7;singer 9 99");
        Due.run(x, "singer 1 1;enter 0 1;rent 0 0 9;sing 0;enter 1 0;night");
        String second = Due.state(x);
        Due.same("restore of the first ones", 1, x.restore());
        Due.same("the first ones", first, Due.state(x));
        Due.same("restore of them again", 1, x.restore());
        Due.same("the first ones again", first, Due.state(x));
        Due.same("others came", false, first.equals(second));
    }
}
