// Boundaries of promises 1 to 11, as to what is done: where something is just enough, ends or is cut off.
final class ChangeBoundaries {
    // Two singers with much breath in a room for both; one of them can make it damp for the other.
    private static final String TWO = "room 9;singer 0 99;singer 0 99;enter 0 0;enter 1 0;echo 0 ";

    private ChangeBoundaries() {
    }

    static void all() {
        newObject();
        dampAtFirst();
        outsideAtFirst();
        singersInIt();
        leavesTheFirstRoom();
        outAndInAgain();
        letWhenTheSingerLeaves();
        roomBefore();
        deposit();
        restOfDeposit();
        backFromAnywhere();
        breathAtMost();
        breathAtMostByVerse();
        tonesOfVerse();
        tonesOfOthers();
        versesOfLetting();
        verseLessWithoutTones();
        dampAsLettingEnds();
        severalLettingsEnd();
        dampUpToNine();
        dampByNight();
        breathByNight();
        breathOfAllByNight();
        callsOfOneObject();
    }

    private static EchoCouncil sungBy(EchoCouncil x, int singer, int times) {
        for (int time = 0; time < times; time++) {
            x.sing(singer);
        }
        return x;
    }

    private static void newObject() {
        Doc.says(1, "Creates a council without rooms, echoes and singers.");
        EchoCouncil x = new EchoCouncil();
        EchoCouncil other = Due.after("room 1;echo 0 1;singer 0 1");
        for (int what = 0; what <= 13; what++) {
            Due.same("account(" + what + ") of a new council", 0, x.account(what));
        }
        Due.same("the other one has a room", 1, other.account(0));
        Due.same("the line", "", Due.line(x));
        Due.same("the fault position", -1, x.faultPosition());
        Due.same("the reason", "none", Due.reasons(x));
        Due.thrown("roomOf(0, 0)", Due.NO_INDEX, () -> x.roomOf(0, 0));
        Due.thrown("echoOf(0, 0)", Due.NO_INDEX, () -> x.echoOf(0, 0));
        Due.thrown("singerOf(0, 0)", Due.NO_INDEX, () -> x.singerOf(0, 0));
    }

    private static void dampAtFirst() {
        Doc.says("Rooms", "and is damp from 0, as at first, to 9.");
        EchoCouncil x = sungBy(Due.after("room 9;singer 0 99;enter 0 0"), 0, 12);
        Due.same("the number of another room", 1, x.room(9));
        Due.same("how damp a new room is", 0, x.roomOf(1, 1));
        Due.same("how damp the first one is", 9, x.roomOf(0, 1));
        Due.same("verses in a new room", 0, x.roomOf(1, 5));
    }

    private static void outsideAtFirst() {
        Doc.says("Singers", "and is in a room, or outside, as at first.");
        EchoCouncil x = Due.after("room 9;singer 0 99;enter 0 0;singer 0 50");
        Due.same("the room of a new singer", -1, x.singerOf(1, 2));
        Due.same("the singers in the room", 1, x.others(0));
    }

    private static void singersInIt() {
        Doc.says(5, "Lets a singer enter a room. Returns how many singers are in it then.");
        EchoCouncil x = Due.after("room 9;room 9;singer 0 0;singer 0 0;singer 0 0;singer 0 0;singer 0 0");
        for (int singer = 0; singer < 4; singer++) {
            Due.same("singers with " + singer, singer + 1, x.enter(singer, 0));
        }
        Due.same("singers in the other room", 1, x.enter(4, 1));
        Due.same("singers with one who changes", 2, x.enter(3, 1));
        Due.same("singers with one who comes back", 4, x.enter(3, 0));
    }

    private static void leavesTheFirstRoom() {
        Doc.says("Details", "A singer who is in a room can enter another one, and leaves the first one by that.");
        EchoCouncil x = Due.after("room 1;room 1;singer 9 0;singer 9 0;enter 0 0");
        Due.same("enter from room to room", 1, x.enter(0, 1));
        Due.same("the singers in the first room", 0, x.others(0));
        Due.same("the singers in the second room", 1, x.others(1));
        Due.same("another one enters the first room", 1, x.enter(1, 0));
        Due.same("it is one change", 6 + 1, x.account(13));
    }

    private static void outAndInAgain() {
        Doc.says(6, "Lets a singer go outside. Returns the room that is left.");
        for (int room = 0; room < 6; room++) {
            EchoCouncil x = Due.after("room 1;room 1;room 1;room 1;room 1;room 1;singer 9 0;enter 0 " + room);
            Due.same("out of room " + room, room, x.out(0));
            Due.same("the room then", -1, x.singerOf(0, 2));
            Due.same("the singers in it then", 0, x.others(room));
            Due.same("in again", 1, x.enter(0, room));
        }
    }

    private static void letWhenTheSingerLeaves() {
        Doc.says("Details", "What is let to a singer stays so when the singer leaves.");
        String let = "room 9;room 9;echo 0 5;singer 0 50;enter 0 0;rent 0 0 3";
        for (String leaves : new String[] {"out 0", "enter 0 1"}) {
            EchoCouncil x = Due.after(let + ";" + leaves);
            Due.same(leaves + ": to whom it is let", 0, x.echoOf(0, 2));
            Due.same(leaves + ": its verses", 3, x.echoOf(0, 3));
            Due.same(leaves + ": its room", 0, x.echoOf(0, 0));
            Due.same(leaves + ": the deposit held", 5, x.singerOf(0, 6));
            Due.same(leaves + ": the breath", 45, x.singerOf(0, 1));
            x.enter(0, leaves.equals("out 0") ? 1 : 0);
            x.enter(0, leaves.equals("out 0") ? 0 : 1);
            x.enter(0, leaves.equals("out 0") ? 1 : 0);
            Due.same(leaves + ": to whom it is let later", 0, x.echoOf(0, 2));
        }
        EchoCouncil x = Due.after(let + ";enter 0 1;sing 0");
        Due.same("the verses after one sung elsewhere", 3, x.echoOf(0, 3));
        Due.same("the tones of one sung elsewhere", 0, x.singerOf(0, 5));
        x.enter(0, 0);
        Due.same("the tones back in the room", 5, x.sing(0));
    }

    private static void roomBefore() {
        Doc.says(7, "Carries an echo to a room. Returns the room before.");
        EchoCouncil x = Due.after("room 1;room 1;room 1;echo 2 5;echo 1 5");
        Due.same("carry from the last to the first", 2, x.carry(0, 0));
        Due.same("its room then", 0, x.echoOf(0, 0));
        Due.same("the other one's room", 1, x.echoOf(1, 0));
        Due.same("carry to the middle", 0, x.carry(0, 1));
        Due.same("carry to the last", 1, x.carry(0, 2));
        Due.same("its strength stays", 5, x.echoOf(0, 1));
    }

    private static void deposit() {
        Doc.says("Letting", "The deposit is as much breath as the strength of the echo; the council holds it.");
        Doc.says(8, "Lets an echo to a singer. Returns the deposit.");
        for (int strength = 1; strength <= 9; strength++) {
            EchoCouncil x = sungBy(Due.after(TWO + strength), 1, 9);
            Due.same("the deposit for " + strength + " in a damp room", strength, x.rent(0, 0, 1));
            Due.same("breath without the deposit", 99 - strength, x.singerOf(0, 1));
            Due.same("what the council holds", strength, x.account(11));
            Due.same("what it holds of the singer", strength, x.singerOf(0, 6));
            Due.same("what it holds of the other one", 0, x.singerOf(1, 6));
            Due.same("the deposits so far", strength, x.account(8));
        }
    }

    // For each strength and each dampness: less how damp it is, but not less than 0.
    private static void restOfDeposit() {
        Doc.says("Letting", "When the letting ends, the singer gets back the deposit, less how damp the room of the echo is"
            + " then, but not less than 0, and has 99 breath at most; the council keeps the rest of it.");
        Doc.says(9, "Gives an echo back. Returns the breath that the singer gets back");
        for (int strength = 1; strength <= 9; strength++) {
            for (int damp = 0; damp <= 9; damp++) {
                String what = "strength " + strength + " at damp " + damp;
                int rest = damp > strength ? 0 : strength - damp;
                EchoCouncil x = sungBy(Due.after(TWO + strength + ";rent 0 0 1"), 1, damp);
                Due.same(what + ", how damp", damp, x.roomOf(0, 1));
                Due.same(what + ", back", rest, x.back(0, 0));
                Due.same(what + ", breath", 99 - strength + rest, x.singerOf(0, 1));
                Due.same(what + ", given back", rest, x.account(9));
                Due.same(what + ", kept", strength - rest, x.account(10));
                Due.same(what + ", held", 0, x.account(11));
                Due.same(what + ", deposits so far", strength, x.account(8));
                Due.same(what + ", to whom it is let", -1, x.echoOf(0, 2));
                Due.same(what + ", its verses", 0, x.echoOf(0, 3));
            }
        }
    }

    // It is the room of the echo that counts, not the one of the singer.
    private static void backFromAnywhere() {
        Doc.says("Details", "An echo can be given back from anywhere.");
        String let = "room 9;room 9;echo 0 5;singer 0 50;enter 0 0;rent 0 0 9;sing 0";
        Due.same("back in its room", 4, Due.after(let).back(0, 0));
        Due.same("back from outside", 4, Due.after(let + ";out 0").back(0, 0));
        Due.same("back from a dry room", 4, Due.after(let + ";enter 0 1").back(0, 0));
        Due.same("back from a damper room", 4, Due.after(let + ";enter 0 1;sing 0;sing 0;sing 0").back(0, 0));
    }

    private static void breathAtMost() {
        Doc.says(9, "what is more than 99 then included.");
        Doc.says("Details", "Breath above 99 that would be given back is lost, and counts as given back.");
        int[] nights = {0, 1, 2, 3};
        for (int night : nights) {
            EchoCouncil x = Due.after(TWO + "9;rent 0 0 9");
            for (int count = 0; count < night; count++) {
                x.night();
            }
            Due.same("breath ahead of back", 90 + 3 * night, x.singerOf(0, 1));
            Due.same("back to " + (99 + 3 * night), 9, x.back(0, 0));
            Due.same("breath after back", 99, x.singerOf(0, 1));
            Due.same("what was given back", 9, x.account(9));
            Due.same("what was kept", 0, x.account(10));
            Due.same("whether it is told", true, x.isTold());
        }
        EchoCouncil x = sungBy(Due.after(TWO + "9;rent 0 0 9"), 1, 1);
        Due.same("back to just less than 99", 8, x.back(0, 0));
        Due.same("breath after it", 98, x.singerOf(0, 1));
    }

    private static void breathAtMostByVerse() {
        EchoCouncil x = Due.after(TWO + "9;rent 0 0 1;night");
        Due.same("breath ahead of the verse", 93, x.singerOf(0, 1));
        x.sing(0);
        Due.same("breath after a verse that ends the letting", 99, x.singerOf(0, 1));
        Due.same("what was given back", 9, x.account(9));
        Due.same("what was kept", 0, x.account(10));
        EchoCouncil y = Due.after("room 9;echo 0 5;singer 0 98;enter 0 0;rent 0 0 1;night;sing 0");
        Due.same("the verse takes breath ahead of what is given back", 99, y.singerOf(0, 1));
        EchoCouncil z = Due.after("room 9;echo 0 5;singer 0 99;enter 0 0;rent 0 0 1;sing 0");
        Due.same("the same just below 99", 98, z.singerOf(0, 1));
    }

    private static void tonesOfVerse() {
        Doc.says("Verses", "Each echo in this room that is let to this singer returns as many tones as its strength is more"
            + " than the room is damp, none if it is not more.");
        Doc.says(10, "Lets a singer sing a verse. Returns how many tones return.");
        for (int strength = 1; strength <= 9; strength++) {
            for (int damp = 0; damp <= 9; damp++) {
                String what = "a verse of strength " + strength + " at damp " + damp;
                int tones = strength > damp ? strength - damp : 0;
                EchoCouncil x = sungBy(Due.after(TWO + strength + ";rent 0 0 2"), 1, damp);
                Due.same(what, tones, x.sing(0));
                Due.same(what + ", the breath", 98 - strength, x.singerOf(0, 1));
                Due.same(what + ", how damp then", Math.min(9, damp + 1), x.roomOf(0, 1));
                Due.same(what + ", tones of the echo", tones, x.echoOf(0, 4));
                Due.same(what + ", tones of the singer", tones, x.singerOf(0, 5));
                Due.same(what + ", all tones", tones, x.account(7));
            }
        }
    }

    private static void tonesOfOthers() {
        String hall = "room 9;room 9;singer 0 99;singer 0 99;echo 0 1;echo 0 2;echo 1 4;echo 0 8;"
            + "enter 0 1;rent 0 2 5;enter 0 0;enter 1 0;rent 0 0 5;rent 1 1 5";
        Due.same("only what is let to the singer, in the room", 1, Due.after(hall).sing(0));
        Due.same("only what is let to the other one", 2, Due.after(hall).sing(1));
        Due.same("only what is in the other room", 4, Due.after(hall + ";enter 0 1").sing(0));
        EchoCouncil x = Due.after(hall + ";sing 0");
        Due.same("verses of the one that was heard", 4, x.echoOf(0, 3));
        Due.same("verses of the one let to another", 5, x.echoOf(1, 3));
        Due.same("verses of the one elsewhere", 5, x.echoOf(2, 3));
        Due.same("verses of the one that is not let", 0, x.echoOf(3, 3));
        Due.same("to whom that is let", -1, x.echoOf(3, 2));
        Due.same("how damp the other room is", 0, x.roomOf(1, 1));
    }

    private static void versesOfLetting() {
        Doc.says("Verses", "Then each of these has a verse less, and the letting of those with none ends, by their numbers;");
        for (int verses = 1; verses <= 9; verses++) {
            EchoCouncil x = Due.after(TWO + "9;rent 0 0 " + verses);
            for (int sung = 1; sung < verses; sung++) {
                x.sing(0);
                Due.same("verses of " + verses + " after " + sung, verses - sung, x.echoOf(0, 3));
                Due.same("to whom it is let after " + sung + " of " + verses, 0, x.echoOf(0, 2));
            }
            x.sing(0);
            Due.same("verses of " + verses + " after all", 0, x.echoOf(0, 3));
            Due.same("to whom it is let after all", -1, x.echoOf(0, 2));
            Due.same("what is held after all", 0, x.account(11));
        }
    }

    private static void verseLessWithoutTones() {
        Doc.says("Details", "By a verse each echo in the room that is let to the singer has a verse less, whether it returns"
            + " tones or not.");
        EchoCouncil x = sungBy(Due.after(TWO + "2;rent 0 0 3"), 1, 2);
        Due.same("a verse without tones", 0, x.sing(0));
        Due.same("verses after it", 2, x.echoOf(0, 3));
        Due.same("another one", 0, x.sing(0));
        Due.same("the last one", 0, x.sing(0));
        Due.same("to whom it is let", -1, x.echoOf(0, 2));
        Due.same("the deposit was kept", 2, x.account(10));
        Due.same("breath", 99 - 2 - 3, x.singerOf(0, 1));
    }

    private static void dampAsLettingEnds() {
        Doc.says("Details", "How damp a room is as a letting ends by a verse is how damp it is ahead of getting more so.");
        for (int strength = 1; strength <= 9; strength++) {
            for (int damp = 0; damp <= 9; damp++) {
                String what = "the last verse of strength " + strength + " at damp " + damp;
                int rest = damp > strength ? 0 : strength - damp;
                EchoCouncil x = sungBy(Due.after(TWO + strength + ";rent 0 0 1"), 1, damp);
                Due.same(what, rest, x.sing(0));
                Due.same(what + ", given back", rest, x.account(9));
                Due.same(what + ", kept", strength - rest, x.account(10));
                Due.same(what + ", breath", 99 - strength - 1 + rest, x.singerOf(0, 1));
                Due.same(what + ", how damp then", Math.min(9, damp + 1), x.roomOf(0, 1));
            }
        }
    }

    private static void severalLettingsEnd() {
        EchoCouncil x = Due.after("room 9;echo 0 9;echo 0 1;echo 0 4;singer 0 98;enter 0 0;sing 0;sing 0;"
            + "rent 0 0 1;rent 0 1 1;rent 0 2 2");
        Due.same("breath ahead of the verse", 82, x.singerOf(0, 1));
        Due.same("a verse", 7 + 0 + 2, x.sing(0));
        Due.same("what is let then", 1, x.account(3));
        Due.same("what is held then", 4, x.account(11));
        Due.same("given back", 7, x.account(9));
        Due.same("kept", 2 + 1, x.account(10));
        Due.same("breath after it", 88, x.singerOf(0, 1));
        EchoCouncil y = Due.after("room 9;echo 0 9;echo 0 8;singer 0 99;enter 0 0;rent 0 0 1;rent 0 1 1;night;night;night;night");
        Due.same("breath ahead of the last verse of two", 94, y.singerOf(0, 1));
        Due.same("the last verse of two", 17, y.sing(0));
        Due.same("breath of both, at most", 99, y.singerOf(0, 1));
        Due.same("all of it was given back", 17, y.account(9));
        Due.same("nothing was kept", 0, y.account(10));
    }

    private static void dampUpToNine() {
        Doc.says("Verses", "and then the room is 1 more damp, up to 9.");
        EchoCouncil x = Due.after("room 9;room 9;singer 0 99;enter 0 0");
        for (int sung = 1; sung <= 12; sung++) {
            x.sing(0);
            Due.same("how damp after " + sung, Math.min(9, sung), x.roomOf(0, 1));
            Due.same("the other room", 0, x.roomOf(1, 1));
            Due.same("verses in it", sung, x.roomOf(0, 5));
            Due.same("breath", 99 - sung, x.singerOf(0, 1));
        }
    }

    private static void dampByNight() {
        Doc.says("Nights", "By a night each room is 2 less damp, but not less than 0");
        int[] after = {0, 0, 0, 1, 2, 3, 4, 5, 6, 7};
        for (int damp = 0; damp <= 9; damp++) {
            EchoCouncil x = sungBy(Due.after("room 9;room 9;singer 0 99;enter 0 1"), 0, damp);
            x.night();
            Due.same("damp " + damp + " after a night", after[damp], x.roomOf(1, 1));
            Due.same("a dry room after a night", 0, x.roomOf(0, 1));
        }
    }

    private static void breathByNight() {
        Doc.says("Nights", "and each singer has 3 breath more, up to 99.");
        for (int breath = 0; breath <= 99; breath++) {
            EchoCouncil x = Due.after("singer 5 " + breath);
            int then = Math.min(99, breath + 3);
            Due.same("a night from " + breath, then - breath, x.night());
            Due.same("breath then", then, x.singerOf(0, 1));
        }
    }

    private static void breathOfAllByNight() {
        Doc.says(11, "Lets a night go by. Returns how much breath all singers get by it, together.");
        Due.same("a night of nobody", 0, new EchoCouncil().night());
        EchoCouncil x = Due.after("singer 0 99;singer 0 98;singer 0 97;singer 0 96;singer 0 95;singer 0 0;room 9;enter 5 0");
        int[] got = {0 + 1 + 2 + 3 + 3 + 3, 0 + 0 + 0 + 0 + 1 + 3, 3};
        for (int night = 0; night < got.length; night++) {
            Due.same("night " + night, got[night], x.night());
            Due.same("the nights so far", night + 1, x.account(4));
        }
    }

    // Many calls, as many as an object is used for, wear nothing out.
    private static void callsOfOneObject() {
        EchoCouncil x = new EchoCouncil();
        for (int call = 1; call <= 511; call++) {
            x.night();
        }
        Due.same("the nights after 511 calls", 511, x.account(4));
        EchoCouncil y = new EchoCouncil();
        for (int call = 1; call <= 510; call++) {
            Due.thrown("a refusal", Due.REFUSED, () -> y.room(0));
        }
        Due.same("a room after 510 calls", 0, y.room(1));
        Due.same("its line", 6, y.tellRoom(0));
        EchoCouncil z = new EchoCouncil();
        z.room(1);
        z.singer(0, 99);
        z.enter(0, 0);
        for (int round = 0; round < 127; round++) {
            z.sing(0);
            z.sing(0);
            z.night();
            Due.same("the singer has breath for ever", true, z.singerOf(0, 1) >= 97);
        }
        Due.same("the verses so far", 254, z.account(6));
    }
}
