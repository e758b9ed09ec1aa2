/** Promise 30: questions of all holders. */
final class AskTest {
    private static final String CASE =
            "held a salt 10;held b salt 20;held c salt 30;"
            + "holder p has a wants b purse 9;holder q has b wants b purse 5;holder r has c wants a purse 7;"
            + "values p a 3;values q b 4;values r c 99;values p b 50;";

    public static void main(String[] args) {
        Check c = new Check();
        answers(c);
        meetings(c);
        nobody(c);
        faults(c);
        c.finish();
    }

    private static void answer(Check c, WrongCook x, String text, long due) {
        c.due(text, Check.ask(x, text), due);
        c.due("no fault: " + text, x.fault(0), 0);
        c.due("no place: " + text, x.fault(1), -1);
        c.due("the tape goes: " + text, x.end(1), false);
    }

    private static void answers(Check c) {
        WrongCook x = Check.opened(CASE);
        answer(c, x, "first all", 0);
        answer(c, x, "last all", 2);
        answer(c, x, "often all", 3);
        answer(c, x, "first not all", -1);
        answer(c, x, "last not all", -1);
        answer(c, x, "often not all", 0);
        answer(c, x, "first wants=1", 1);
        answer(c, x, "last purse>6", 2);
        answer(c, x, "first purse<8", 1);
        answer(c, x, "often salt>10 and gives<10 or number=2", 2);
        answer(c, x, " often\n[ number < 1 ] ", 1);
        answer(c, x, "total number", 3);
        answer(c, x, "total gives", 106);
        answer(c, x, "total wants", 1);
        answer(c, x, "total salt", 60);
        answer(c, x, "total purse", 21);
        answer(c, x, "total night", 0);
        answer(c, x, "most purse", 9);
        answer(c, x, "least purse", 5);
        answer(c, x, "most 0-salt", -10);
        answer(c, x, "least 0-salt", -30);
        answer(c, x, "total(1)", 3);
        answer(c, x, "total min(salt,15)+max(purse,7)", 10 + 15 + 15 + 9 + 7 + 7);
        answer(c, x, "total 9999*9999", 3000000);
        answer(c, x, "total 0-9999*9999-5", -3000000);
        answer(c, x, "least 5/0", 0);
        answer(c, x, "most (0-salt)/7", -2);
        x.nights(12);
        answer(c, x, "most night", 12);
        c.due("no refusals", x.status(1), 0);
    }

    private static void meetings(Check c) {
        WrongCook x = Check.opened(CASE);
        Check.ring(x, 0, 1);
        Check.ring(x, 1, 0);
        Check.ring(x, 2, 0);
        // p met q twice, r once.
        answer(c, x, "total met 0", 3);
        answer(c, x, "most met 1", 2);
        answer(c, x, "first met 2>0", 0);
        answer(c, x, "total met number", 0);
        answer(c, x, "total met 3", 0);
        answer(c, x, "total met 5", 0);
        answer(c, x, "total met 6", 0);
        answer(c, x, "total met 9999", 0);
        answer(c, x, "total met (0-1)", 0);
        answer(c, x, "total met (number+1)", 2);
        answer(c, x, "total met min(0,1)*10+1", 33);
        answer(c, x, "most met met 2", 2);
        answer(c, x, "total met 1*met 2", 2);
    }

    private static void nobody(Check c) {
        WrongCook x = new WrongCook();
        answer(c, x, "first all", -1);
        answer(c, x, "last all", -1);
        answer(c, x, "often all", 0);
        answer(c, x, "total 5", 0);
        answer(c, x, "most 5", 0);
        answer(c, x, "least 5", 0);
    }

    private static void fault(Check c, int fault, String marked) {
        int place = marked.indexOf('^');
        String text = marked.substring(0, place) + marked.substring(place + 1);
        WrongCook x = Check.opened(CASE);
        c.due(marked, Check.ask(x, text), -1000000000000000L);
        c.due("fault of " + marked, x.fault(0), fault);
        c.due("place of " + marked, x.fault(1), place);
        c.due("the tape goes: " + marked, x.end(1), false);
        c.due("not counted", x.status(1), 0);
        c.due("nothing else changed", x.has(1), 3);
    }

    private static void faults(Check c) {
        fault(c, 1, "^");
        fault(c, 1, " \n^");
        fault(c, 1, "^frst all");
        fault(c, 1, "^held a salt 1;");
        fault(c, 1, "^5");
        fault(c, 1, "first^");
        fault(c, 1, "first 5^");
        fault(c, 1, "^firstall");
        fault(c, 1, "total^5");
        fault(c, 1, "total ^all");
        fault(c, 1, "often ^gets>1");
        fault(c, 1, "often ^foo>1");
        fault(c, 1, "often ^numbers>1");
        fault(c, 1, "total 5^;");
        fault(c, 1, "total 5 ^5");
        fault(c, 1, "often all ^first");
        fault(c, 1, "often all ^all");
        fault(c, 1, "total 5^>3");
        fault(c, 1, "total met^");
        fault(c, 1, "total met ^+1");
        fault(c, 1, "total met^1");
        fault(c, 1, "total 1234^5");
        fault(c, 1, "total number^1");
        fault(c, 4, "total met met met met met met ^met 1");
        fault(c, 4, "often not [not [ met (^met (1)) > 1 ]]");
        fault(c, 4, "often [[[[[[^[");
        fault(c, 4, "total ((((((^(");
        WrongCook x = Check.opened(CASE);
        answer(c, x, "total met met met met met met 1", 0);
        answer(c, x, "total met met met 1+met met met met 1+((((((1))))))", 3);
        answer(c, x, "often not [not [met (1)>1]]", 0);
    }
}
