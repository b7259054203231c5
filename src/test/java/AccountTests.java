// Promises 39 to 41: accounts.
public final class AccountTests {
    public static void main(String[] args) {
        account();
        accountOfChanges();
        meanDamp();
        letShare();
        Due.end();
    }

    private static void accounts(String what, EchoCouncil x, int... due) {
        for (int number = 0; number < due.length; number++) {
            Due.same(what + ", account " + number, due[number], x.account(number));
        }
    }

    private static void account() {
        EchoCouncil x = new EchoCouncil();
        accounts("a new one", x, 0, 0, 0, 0, 0, 0, 0, 0, 0, 0, 0, 0, 0, 0);
        Due.thrown("account(14)", Due.BAD_ARGUMENT, () -> x.account(14));
        Due.thrown("account(-1)", Due.BAD_ARGUMENT, () -> x.account(-1));
        Due.thrown("account(greatest)", Due.BAD_ARGUMENT, () -> x.account(Integer.MAX_VALUE));
        Due.does(x, "room 5;room 4;echo 0 7;echo 1 4;echo 1 9;singer 0 99;singer 0 50;singer 0 9;singer 0 0");
        accounts("one with all", x, 2, 3, 4, 0, 0, 0, 0, 0, 0, 0, 0, 0, 0, 8);
        Due.does(x, "enter 0 0;rent 0 0 2;enter 1 1;rent 1 1 9;sing 0;sing 1;sing 1");
        accounts("one after verses", x, 2, 3, 4, 2, 0, 3, 3, 14, 11, 0, 0, 11, 0, 8);
        Due.type(x, "room");
        x.sing(0);
        accounts("one after a letting ended", x, 2, 3, 4, 1, 0, 4, 4, 20, 11, 6, 1, 4, 4, 8);
        x.back(1, 1);
        accounts("one after back", x, 2, 3, 4, 0, 0, 4, 4, 20, 11, 8, 3, 0, 4, 8);
        x.night();
        x.night();
        accounts("one after nights", x, 2, 3, 4, 0, 2, 0, 4, 20, 11, 8, 3, 0, 4, 8);
    }

    private static void accountOfChanges() {
        EchoCouncil x = new EchoCouncil();
        for (int nights = 1; nights <= 20; nights++) {
            x.night();
            Due.same("changes that can be undone", Math.min(8, nights), x.account(13));
        }
    }

    private static void meanDamp() {
        EchoCouncil x = new EchoCouncil();
        Due.thrown("meanDamp without rooms", Due.BAD_ARITHMETIC, () -> x.meanDamp());
        Due.does(x, "room 1;singer 0 99");
        Due.same("meanDamp at first", 0.0, x.meanDamp());
        Due.does(x, "enter 0 0;sing 0;sing 0");
        Due.same("meanDamp of one", 2.0, x.meanDamp());
        Due.does(x, "room 1;room 1");
        Due.same("meanDamp of three", 2.0 / 3.0, x.meanDamp());
        x.sing(0);
        Due.same("meanDamp of three then", 1.0, x.meanDamp());
        Due.does(x, "room 1;room 1;room 1;enter 0 5;sing 0;sing 0");
        Due.same("meanDamp of six", 5.0 / 6.0, x.meanDamp());
    }

    private static void letShare() {
        EchoCouncil x = new EchoCouncil();
        Due.thrown("letShare without echoes", Due.BAD_ARITHMETIC, () -> x.letShare());
        Due.does(x, "room 1;singer 0 99;enter 0 0;echo 0 1");
        Due.same("letShare at first", 0.0f, x.letShare());
        x.rent(0, 0, 1);
        Due.same("letShare of one", 1.0f, x.letShare());
        Due.does(x, "echo 0 2;echo 0 3");
        Due.same("letShare of three", 1.0f / 3.0f, x.letShare());
        Due.does(x, "rent 0 2 1");
        Due.same("letShare of three then", 2.0f / 3.0f, x.letShare());
        Due.does(x, "echo 0 2;echo 0 3;echo 0 2;echo 0 3;rent 0 6 1");
        Due.same("letShare of seven", 3.0f / 7.0f, x.letShare());
    }
}
