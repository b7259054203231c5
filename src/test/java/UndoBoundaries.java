// Boundaries of promises 39 to 44: accounts, shares of none, what can be undone, saved and restored.
final class UndoBoundaries {
    private static final String HALL = "room 9;room 1;echo 0 9;echo 0 2;singer 0 90;singer 0 20";

    private UndoBoundaries() {
    }

    static void all() {
        account();
        accountNumbers();
        meanDamp();
        letShare();
        undoOfNothing();
        undoOfEachChange();
        changesWithoutDifference();
        noChanges();
        latestEight();
        latestNotUndone();
        staysWhenUndone();
        savedStaysWhenUndone();
        saveInPlace();
        restoreOfNothing();
        restoreStaysSaved();
        restoreOverOthers();
        restoreForgetsChanges();
        restoreLeavesTheRest();
        leavesStateUnchanged();
        notForThreads();
    }

    private static void account() {
        Doc.says(39, "Throws `IllegalArgumentException` if what is not 0 to 13");
        for (int what : new int[] {14, -1, 15, Integer.MIN_VALUE, Integer.MAX_VALUE}) {
            Due.onlyThrown("account(" + what + ")", HALL, Due.BAD_ARGUMENT, x -> x.account(what));
        }
    }

    private static void accountNumbers() {
        Doc.says(39, "Returns an account. - `what`: 0 the rooms; 1 the echoes; 2 the singers; 3 the echoes that are let; 4 the nights so"
            + " far; 5 how damp all rooms are, together; 6 the verses so far; 7 the tones so far; 8 the deposits so far; 9 what was"
            + " given back of them so far; 10 what the council kept of them so far; 11 the deposits that it holds; 12 the characters"
            + " in the input; 13 the changes that can be undone Returns the number.");
        EchoCouncil x = Due.after("room 9;room 9;echo 0 9;echo 0 2;echo 1 8;singer 0 99;singer 0 99;enter 0 0;enter 1 1;rent 0 0 9;"
            + "rent 1 2 5;rent 0 1 2;sing 0;sing 0;sing 0;sing 1;night;sing 1;sing 1;back 0 0");
        Due.type(x, "night;night;nig");
        int[] due = {2, 3, 2, 1, 1, 1 + 2, 6, 11 + 9 + 7 + 8 + 8 + 7, 19, 1 + 8, 1 + 1, 8, 15, 8};
        for (int what = 0; what < due.length; what++) {
            Due.same("account(" + what + ")", due[what], x.account(what));
        }
    }

    private static void meanDamp() {
        Doc.says(40, "Returns how damp the rooms are in the mean: the sum, converted to double, divided by their number. Returns the mean.");
        Doc.says(40, "Throws `ArithmeticException` if there are none");
        Due.onlyThrown("meanDamp without rooms", "singer 0 9", Due.BAD_ARITHMETIC, x -> x.meanDamp());
        EchoCouncil x = Due.after("singer 0 99;room 1;enter 0 0");
        Due.same("meanDamp of a dry room", 0.0, x.meanDamp());
        for (int rooms = 1; rooms <= 6; rooms++) {
            for (int sung = 0; sung < 2; sung++) {
                x.sing(0);
            }
            Due.same("meanDamp of " + rooms, 2.0 * rooms / rooms, x.meanDamp());
            if (rooms < 6) {
                x.room(1);
                Due.same("meanDamp of one more", 2.0 * rooms / (rooms + 1), x.meanDamp());
                x.enter(0, rooms);
            }
        }
        x.sing(0);
        Due.same("meanDamp that is no short number", 13.0 / 6.0, x.meanDamp());
        Due.same("meanDamp as damp as can be", 9.0, Due.after("room 1;singer 0 99;enter 0 0;sing 0;sing 0;sing 0;sing 0;sing 0;"
            + "sing 0;sing 0;sing 0;sing 0;sing 0").meanDamp());
    }

    private static void letShare() {
        Doc.says(41, "Returns the share of the echoes that are let: the one number, converted to float, divided by the other."
            + " Returns the share.");
        Doc.says(41, "Throws `ArithmeticException` if there are none");
        Due.onlyThrown("letShare without echoes", "room 9;singer 0 9", Due.BAD_ARITHMETIC, x -> x.letShare());
        for (int echoes = 1; echoes <= 8; echoes++) {
            EchoCouncil x = Due.after("room 9;singer 0 99;enter 0 0");
            for (int echo = 0; echo < echoes; echo++) {
                x.echo(0, 1);
            }
            for (int let = 0; let < echoes; let++) {
                Due.same("letShare of " + let + " in " + echoes, (float) let / (float) echoes, x.letShare());
                x.rent(0, let, 1);
            }
            Due.same("letShare of all " + echoes, 1.0f, x.letShare());
        }
    }

    private static void undoOfNothing() {
        Doc.says(42, "Throws `IllegalStateException` if there is none");
        Due.onlyThrown("undo of nothing", "", Due.BAD_STATE, x -> x.undo());
        EchoCouncil x = Due.after("room 1");
        Due.same("undo of the only change", 0, x.undo());
        Due.thrown("undo of no more", Due.BAD_STATE, () -> x.undo());
        Due.thrown("undo of no more again", Due.BAD_STATE, () -> x.undo());
        Due.same("a change after that", 0, x.room(2));
        Due.same("it can be undone", 0, x.undo());
    }

    private static void undoOfEachChange() {
        Doc.says("Changes", "The changes are the calls of room, echo, singer, enter, out, carry, rent, back, sing, night and run that throw"
            + " no exception");
        String hall = HALL + ";enter 0 0;rent 0 0 3;sing 0";
        undone("room", hall, x -> x.room(4));
        undone("echo", hall, x -> x.echo(1, 4));
        undone("singer", hall, x -> x.singer(4, 4));
        undone("enter", hall, x -> x.enter(1, 0));
        undone("enter from a room", hall, x -> x.enter(0, 1));
        undone("out", hall, x -> x.out(0));
        undone("carry", hall, x -> x.carry(1, 1));
        undone("rent", hall, x -> x.rent(0, 1, 9));
        undone("back", hall, x -> x.back(0, 0));
        undone("sing", hall, x -> x.sing(0));
        undone("night", hall, x -> x.night());
        undone("run", hall, x -> Due.run(x, "sing 0;sing 0;night;room 3;echo 2 2;singer 0 1;out 0"));
        undone("sing that ends a letting", hall + ";sing 0", x -> x.sing(0));
    }

    private static void undone(String what, String hall, Due.Action call) {
        EchoCouncil x = Due.after(hall);
        Due.run(x, "night");
        x.undo();
        EchoCouncil twin = Due.after(hall);
        Due.run(twin, "night");
        twin.undo();
        int left = x.account(13);
        call.on(x);
        Due.same(what + " is a change", left + 1, x.account(13));
        Due.same(what + " is different", false, Due.state(twin).equals(Due.state(x)));
        Due.same("undo of " + what, left, x.undo());
        Due.type(x, "night");
        Due.type(twin, "night");
        x.save();
        twin.save();
        Due.sameFromNowOn("after undo of " + what, twin, x);
    }

    private static void changesWithoutDifference() {
        Doc.says("Changes", "also if nothing is different then.");
        EchoCouncil x = Due.after("room 1;room 2;echo 0 1;singer 0 99");
        String ahead = Due.state(x);
        Due.run(x, "carry 0 1;carry 0 0");
        Due.same("the state after a run to and fro", ahead, Due.state(x));
        Due.same("it is a change", 5, x.account(13));
        Due.run(x, "enter 0 0;out 0");
        Due.same("another one", 6, x.account(13));
        Due.same("undo of it", 5, x.undo());
        Due.same("the state after undo", ahead, Due.state(x));
        Due.same("undo of the first", 4, x.undo());
        Due.same("the state after both", ahead, Due.state(x));
        EchoCouncil y = new EchoCouncil();
        y.night();
        Due.same("a night of nobody is a change", 1, y.account(13));
    }

    private static void noChanges() {
        EchoCouncil x = Due.used(HALL + ";enter 0 0;rent 0 0 3");
        int changes = x.account(13);
        x.tellRoom(0);
        x.tellEcho(0);
        x.tellSinger(0);
        x.canEnter(0, 1);
        x.canRent(0, 1);
        x.save();
        x.append('x');
        x.isTold();
        Due.thrown("run of a fault", Due.BAD_ARGUMENT, () -> x.run());
        Due.thrown("run of a refused order", Due.REFUSED, () -> Due.run(x, "night;room 0"));
        Due.thrown("room(0)", Due.REFUSED, () -> x.room(0));
        Due.same("changes after what is none", changes, x.account(13));
        Due.same("the nights", 0, x.account(4));
        x.undo();
        Due.same("undo is of the rent", -1, x.echoOf(0, 2));
        Due.same("the singer stays in the room", 0, x.singerOf(0, 2));
    }

    private static void latestEight() {
        Doc.says("Changes", "The latest 8 can be undone, the latest one first.");
        Doc.says(42, "Undoes the latest change that was not undone. Returns the number of changes that can still be undone.");
        for (int changes = 1; changes <= 20; changes++) {
            EchoCouncil x = new EchoCouncil();
            for (int night = 0; night < changes; night++) {
                x.night();
            }
            int most = Math.min(8, changes);
            Due.same("changes that can be undone of " + changes, most, x.account(13));
            for (int left = most - 1; left >= 0; left--) {
                Due.same("undo of " + changes, left, x.undo());
                Due.same("the nights then", changes - (most - left), x.account(4));
                Due.same("the changes then", left, x.account(13));
            }
            Due.thrown("undo of more than 8 of " + changes, Due.BAD_STATE, () -> x.undo());
            Due.same("the nights that stay", changes - most, x.account(4));
        }
    }

    private static void latestNotUndone() {
        EchoCouncil x = new EchoCouncil();
        for (int night = 0; night < 9; night++) {
            x.night();
        }
        Due.same("undo of the ninth", 7, x.undo());
        x.room(1);
        Due.same("changes after another one", 8, x.account(13));
        Due.same("undo of that one", 7, x.undo());
        Due.same("the rooms", 0, x.account(0));
        Due.same("the nights", 8, x.account(4));
        Due.same("undo of the eighth night", 6, x.undo());
        Due.same("the nights then", 7, x.account(4));
        for (int change = 0; change < 8; change++) {
            x.singer(change % 6, 0);
            x.undo();
        }
        Due.same("undo of the seventh night", 5, x.undo());
        Due.same("the nights in the end", 6, x.account(4));
        Due.same("the singers in the end", 0, x.account(2));
    }

    private static void staysWhenUndone() {
        Doc.says("Changes", "The input, the fault position, the reason with what is behind it, the line of text and what was saved stay as"
            + " they are when a change is undone.");
        EchoCouncil x = Due.after("room 1");
        x.undo();
        Due.type(x, "night;room 1");
        x.room(5);
        x.undo();
        Due.same("the input stays", 12, x.account(12));
        Due.same("the input is what it was", 2, x.run());
        x.undo();
        Due.same("the input of an undone run stays empty", 0, x.account(12));
        Due.thrown("run of a fault", Due.BAD_ARGUMENT, () -> Due.run(x, "nix"));
        x.room(1);
        x.undo();
        Due.same("the fault position stays", 2, x.faultPosition());
        Due.run(x, "night");
        x.undo();
        Due.same("the fault position of an undone run stays", -1, x.faultPosition());
        x.room(1);
        Due.thrown("run of a refused order", Due.REFUSED, () -> Due.run(x, "night;sing 7"));
        x.undo();
        Due.same("the reason and its cause stay", "12 1 2 7", Due.reasons(x));
        x.room(5);
        x.tellRoom(0);
        x.undo();
        Due.same("the line stays", "0[5~0]", Due.line(x));
        Due.same("the rooms", 0, x.account(0));
    }

    private static void savedStaysWhenUndone() {
        EchoCouncil x = Due.after("room 1;room 2;room 3");
        x.save();
        x.undo();
        x.undo();
        Due.same("the rooms after undo", 1, x.account(0));
        x.restore();
        Due.same("the rooms that were saved", 3, x.account(0));
        EchoCouncil y = Due.after("room 1;echo 0 1");
        y.save();
        Due.does(y, "singer 0 50;enter 0 0;rent 0 0 3;sing 0");
        y.undo();
        y.undo();
        y.sing(0);
        y.restore();
        Due.same("what was saved is not touched by what comes later", Due.state(Due.after("room 1;echo 0 1")), Due.state(y));
    }

    private static void saveInPlace() {
        Doc.says(43, "Saves all that goes back when a change is undone, in place of what was saved before. Returns the echoes.");
        Due.same("save of nothing", 0, new EchoCouncil().save());
        EchoCouncil x = Due.after("room 9;echo 0 1;echo 0 1;echo 0 1;echo 0 1;echo 0 1;echo 0 1;echo 0 1");
        Due.same("save of seven echoes", 7, x.save());
        x.echo(0, 9);
        Due.same("save of eight echoes", 8, x.save());
        Due.same("save is no change", 8, x.account(13));
        x.undo();
        Due.same("restore of eight, not seven", 8, x.restore());
        Due.same("the last one", 9, x.echoOf(7, 1));
        String hall = HALL + ";enter 0 0;rent 0 0 3;rent 0 1 1;sing 0;night";
        EchoCouncil y = Due.after(hall);
        y.save();
        Due.does(y, "sing 0;out 0;carry 1 1;enter 1 1;back 0 0;night;singer 1 1;echo 0 5;room 3");
        y.restore();
        Due.same("all that goes back", Due.state(Due.after(hall)), Due.state(y));
        EchoCouncil z = new EchoCouncil();
        z.save();
        Due.does(z, hall);
        Due.same("restore of nothing at all", 0, z.restore());
        Due.same("nothing at all", Due.state(new EchoCouncil()), Due.state(z));
    }

    private static void restoreOfNothing() {
        Doc.says(44, "Throws `IllegalStateException` if nothing was saved");
        EchoCouncil x = new EchoCouncil();
        Due.thrown("restore of a new council", Due.BAD_STATE, () -> x.restore());
        Due.does(x, HALL);
        String ahead = Due.all(x);
        Due.thrown("restore when nothing was saved", Due.BAD_STATE, () -> x.restore());
        Due.same("the state and the changes stay", ahead, Due.all(x));
        x.undo();
        Due.thrown("restore after undo", Due.BAD_STATE, () -> x.restore());
    }

    private static void restoreStaysSaved() {
        Doc.says(44, "Restores what was saved, which stays saved.");
        Doc.says(44, "Returns the echoes.");
        EchoCouncil x = Due.after(HALL + ";enter 0 0;rent 0 0 3");
        x.save();
        String saved = Due.state(x);
        for (int time = 0; time < 3; time++) {
            Due.does(x, "sing 0;night;echo 1 1");
            Due.same("restore", 2, x.restore());
            Due.same("what was saved", saved, Due.state(x));
            Due.same("restore again at once", 2, x.restore());
            Due.same("what was saved again", saved, Due.state(x));
        }
    }

    // Others of the same numbers came in the meantime, or fewer, or more.
    private static void restoreOverOthers() {
        String first = "room 5;echo 0 9;singer 0 50;enter 0 0;rent 0 0 3;sing 0";
        String[] others = {"room 2;room 3;echo 1 1;echo 0 7;singer 9 99;singer 1 1;enter 0 1;rent 0 0 9", "singer 4 4", "night",
            "room 6;singer 7 8"};
        for (String other : others) {
            EchoCouncil x = new EchoCouncil();
            Due.run(x, first);
            x.save();
            x.undo();
            Due.does(x, other);
            Due.same("restore over " + other, 1, x.restore());
            EchoCouncil due = new EchoCouncil();
            Due.run(due, first);
            Due.same("what was saved ahead of " + other, Due.state(due), Due.state(x));
            EchoCouncil y = Due.after(other);
            y.save();
            String saved = Due.state(y);
            while (y.account(13) > 0) {
                y.undo();
            }
            Due.run(y, first);
            y.restore();
            Due.same("the other way round, " + other, saved, Due.state(y));
        }
    }

    private static void restoreForgetsChanges() {
        Doc.says(44, "No changes can be undone then.");
        EchoCouncil x = Due.after(HALL);
        x.save();
        Due.does(x, "night;night;night");
        x.restore();
        Due.same("the changes", 0, x.account(13));
        Due.thrown("undo", Due.BAD_STATE, () -> x.undo());
        x.night();
        Due.same("the changes after one", 1, x.account(13));
        Due.same("undo of that one", 0, x.undo());
        Due.same("the nights", 0, x.account(4));
        Due.thrown("undo of no more", Due.BAD_STATE, () -> x.undo());
    }

    private static void restoreLeavesTheRest() {
        EchoCouncil x = Due.after("room 1");
        x.save();
        Due.thrown("run of a refused order", Due.REFUSED, () -> Due.run(x, "night;sing 7"));
        Due.thrown("run of a fault", Due.BAD_ARGUMENT, () -> Due.run(x, "nix"));
        Due.type(x, "night;room 1");
        x.room(7);
        x.tellRoom(1);
        x.restore();
        Due.same("the input", 12, x.account(12));
        Due.same("the fault position", 2, x.faultPosition());
        Due.same("the reasons", "12 1 2 7", Due.reasons(x));
        Due.same("the line", "1[7~0]", Due.line(x));
        Due.same("run of the input", 2, x.run());
    }

    // Here with a letting and a damp room; each boundary of the other tests looks at this too.
    private static void leavesStateUnchanged() {
        Doc.says("Exceptions", "A method that throws an exception leaves the state unchanged, unless it is said otherwise.");
        String hall = HALL + ";enter 0 0;rent 0 0 3;sing 0";
        Due.onlyRefused("room", hall, 3, 0, x -> x.room(0));
        Due.onlyRefused("echo", hall, 3, 10, x -> x.echo(0, 10));
        Due.onlyRefused("singer", hall, 3, 100, x -> x.singer(0, 100));
        Due.onlyRefused("enter", hall, 4, 0, x -> x.enter(0, 0));
        Due.onlyRefused("out", hall, 10, 1, x -> x.out(1));
        Due.onlyRefused("carry", hall, 7, 0, x -> x.carry(0, 1));
        Due.onlyRefused("rent", hall, 7, 0, x -> x.rent(0, 0, 9));
        Due.onlyRefused("back", hall, 11, 0, x -> x.back(1, 0));
        Due.onlyRefused("sing", hall, 10, 1, x -> x.sing(1));
        Due.onlyThrown("append", hall, Due.BAD_ARGUMENT, x -> x.append('\n'));
        Due.onlyThrown("tellRoom", hall, Due.NO_INDEX, x -> x.tellRoom(2));
        Due.onlyThrown("character", hall, Due.NO_INDEX, x -> x.character(99));
    }

    // What the document leaves free has nothing to test; it is named here so that no sentence is forgotten.
    private static void notForThreads() {
        Doc.says("Terms", "The class is not thread-safe.");
    }
}
