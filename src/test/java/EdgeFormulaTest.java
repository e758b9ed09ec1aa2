/** At the boundaries of TEST and SUM, in cases and in questions (sections I and IV). */
final class EdgeFormulaTest {
    private static final String AB = "held a salt 10;held b salt 20;"
            + "holder p has a wants b purse 999;holder q has b wants b purse 999;";

    public static void main(String[] args) {
        Check c = new Check();
        digits(c);
        signs(c);
        leftOn(c);
        bothAndOr(c);
        notOf(c);
        everyFact(c);
        manyFormulas(c);
        quotients(c);
        greatest(c);
        parts(c);
        met(c);
        places(c);
        sevenOpen(c);
        notEnds(c);
        metEnds(c);
        sevenOpenAsked(c);
        c.finish();
    }

    /** A SUM's worth, asked; and what it makes one pay, if that can be told. */
    private static void sum(Check c, String sum, int due) {
        c.due("most " + sum, Check.ask(Check.opened("held a salt 1;holder p has a wants a purse 1;"), "most " + sum), due);
        WrongCook x = Check.opened(AB + "pays wants*(" + sum + ");");
        c.due("judge " + sum, Check.judge(x, 0, 1), 0);
        c.due("pays " + sum, x.judged(1), Math.max(0, Math.min(999, due)));
    }

    /** Whether a TEST holds, asked and of a ring. */
    private static void test(Check c, String test, boolean due) {
        c.due("often " + test, Check.ask(Check.opened("held a salt 1;holder p has a wants a purse 1;"), "often " + test), due ? 1 : 0);
        WrongCook x = Check.opened(AB + "swaps " + test + ";");
        c.due("swaps " + test, Check.judge(x, 0, 1), due ? 0 : 2);
    }

    private static void digits(Check c) {
        c.by("PART: N (1 to 4 digits);");
        sum(c, "0", 0);
        sum(c, "7", 7);
        sum(c, "10", 10);
        sum(c, "999", 999);
        sum(c, "1000", 1000);
        sum(c, "9999", 9999);
        sum(c, "0000", 0);
        sum(c, "0012", 12);
        sum(c, "0989", 989);
        EdgeCaseTest.fault(c, 1, "pays 1000^0;");
        EdgeCaseTest.fault(c, 1, "pays 0000^0;");
        EdgeAskTest.fault(c, 1, "total 1000^0");
        EdgeAskTest.fault(c, 1, "total 0000^0");
    }

    private static void signs(Check c) {
        c.by("SUM SIGN SUM, SIGN < or > or = .");
        test(c, "1<2", true);
        test(c, "2<2", false);
        test(c, "3<2", false);
        test(c, "1>2", false);
        test(c, "2>2", false);
        test(c, "3>2", true);
        test(c, "1=2", false);
        test(c, "2=2", true);
        test(c, "3=2", false);
        test(c, "0-1<0", true);
        test(c, "0>0-1", true);
        test(c, "0-1=0-1", true);
        test(c, "1+1=2*1", true);
        test(c, "9999*9999=1000*1000", true);
        EdgeCaseTest.fault(c, 1, "swaps 1<^=2;");
        EdgeCaseTest.fault(c, 1, "swaps 1<2^<3;");
        EdgeCaseTest.fault(c, 1, "swaps 1^;");
        EdgeCaseTest.fault(c, 1, "swaps 1=2^=3;");
        EdgeCaseTest.fault(c, 1, "swaps 1^!2;");
    }

    private static void leftOn(Check c) {
        c.by("All from the left on;");
        sum(c, "10-3-2", 5);
        sum(c, "10-3+2", 9);
        sum(c, "100/10/5", 2);
        sum(c, "7/2*2", 6);
        sum(c, "2*7/2", 7);
        sum(c, "2+3*4", 14);
        sum(c, "2*3+4", 10);
        sum(c, "20-2*3-4/2", 12);
        sum(c, "(2+3)*4", 20);
        sum(c, "10-(3-2)", 9);
        sum(c, "100/(10/5)", 50);
        sum(c, "min(3,2)+max(3,2)*10", 32);
        sum(c, "min(2,3)+max(2,3)*10", 32);
        sum(c, "min(2,2)+max(2,2)", 4);
        sum(c, "max(0-5,0-6)+min(0-5,0-6)+20", 9);
    }

    private static void bothAndOr(Check c) {
        c.by("TEST: BOTH { or BOTH }. BOTH: FACT { and FACT }.");
        String[] facts = {"0=1", "all"};
        for (int bits = 0; bits < 8; bits++) {
            boolean one = (bits & 1) > 0;
            boolean two = (bits & 2) > 0;
            boolean three = (bits & 4) > 0;
            String p = facts[bits & 1];
            String q = facts[bits >> 1 & 1];
            String r = facts[bits >> 2];
            test(c, p, one);
            test(c, p + " and " + q, one && two);
            test(c, p + " or " + q, one || two);
            test(c, p + " or " + q + " and " + r, one || two && three);
            test(c, p + " and " + q + " or " + r, one && two || three);
            test(c, "[" + p + " or " + q + "]and " + r, (one || two) && three);
            test(c, p + " and[" + q + " or " + r + "]", one && (two || three));
            test(c, p + " or " + q + " or " + r, one || two || three);
            test(c, p + " and " + q + " and " + r, one && two && three);
            test(c, "not " + p + " and " + q, !one && two);
            test(c, "not " + p + " or " + q, !one || two);
            test(c, "not[" + p + " or " + q + "]", !one && !two);
        }
    }

    private static void notOf(Check c) {
        c.by("FACT: not FACT; [ TEST ] ; all; SUM SIGN SUM");
        test(c, "not 1=2", true);
        test(c, "not all", false);
        test(c, "not not all", true);
        test(c, "not not not 1=2", true);
        test(c, "[all]", true);
        test(c, "[[1=2]]", false);
        test(c, "(1)=1", true);
        EdgeCaseTest.fault(c, 1, "swaps not^;");
        EdgeCaseTest.fault(c, 1, "swaps all ^not all;");
        EdgeCaseTest.fault(c, 1, "swaps (^all);");
        EdgeCaseTest.fault(c, 1, "swaps [1^];");
        EdgeCaseTest.fault(c, 1, "swaps [^];");
        EdgeCaseTest.fault(c, 1, "swaps [all^);");
        EdgeCaseTest.fault(c, 1, "pays ^[1];");
        EdgeCaseTest.fault(c, 1, "pays (1^];");
        EdgeCaseTest.fault(c, 1, "pays ^all;");
        EdgeCaseTest.fault(c, 1, "pays ^not 1;");
        EdgeCaseTest.fault(c, 1, "pays (^);");
        EdgeCaseTest.fault(c, 1, "pays ^+1;");
        EdgeCaseTest.fault(c, 1, "pays 1+^-1;");
        EdgeCaseTest.fault(c, 1, "pays min^[1,2);");
        EdgeCaseTest.fault(c, 1, "pays min(1^);");
        EdgeCaseTest.fault(c, 1, "pays min(1,2^,3);");
        EdgeCaseTest.fault(c, 1, "pays max(1^;2);");
    }

    private static void everyFact(Check c) {
        c.by("FACT: not FACT; [ TEST ] ; all; SUM SIGN SUM");
        String[] so = {"1<2", "2>1", "2=2", "all", "[all]", "[1<2]", "not 2<1", "not 2=1", "not not 2>1", "not[1>2]", "0-2<0-1"};
        String[] notSo = {"2<1", "1>2", "1=2", "not all", "[not all]", "[2<1]", "not 1<2", "not 2>1", "not not 1=2", "not[2=2]",
            "0-1<0-2"};
        for (String one : so) {
            test(c, one, true);
            test(c, "not " + one, false);
            for (String other : so) {
                test(c, one + " and " + other, true);
                test(c, one + " or " + other, true);
            }
            for (String other : notSo) {
                test(c, one + " and " + other, false);
                test(c, other + " or " + one, true);
                test(c, other + " and " + one, false);
            }
        }
        for (String one : notSo) {
            test(c, one, false);
            test(c, "not " + one, true);
            for (String other : notSo) {
                test(c, one + " or " + other, false);
                test(c, one + " and " + other, false);
            }
        }
    }

    private static void manyFormulas(Check c) {
        c.by("An object is used for at most 512 calls after it has been made");
        WrongCook x = new WrongCook();
        for (int k = 0; k < 85; k++) {
            // "pays 1+min(3,2)*9;" and "often all", five calls a round.
            x.feed(0x70617973, 0x20312b6d, 0x696e2833, 0x2c32292a, 0x393b3b3b);
            c.due("end " + k, x.end(18), true);
            c.due("open " + k, x.open(), 1);
            x.feed(0x6f667465, 0x6e20616c, 0x6c202020, 0x20202020, 0x20202020);
            c.due("ask " + k, x.ask(), 0);
        }
        WrongCook sums = Check.opened("held a salt 1;holder p has a wants a purse 7;");
        WrongCook tests = Check.opened("held a salt 1;holder p has a wants a purse 7;");
        for (int k = 0; k < 125; k++) {
            c.due("sum " + k, Check.ask(sums, "most purse+1"), 8);
            c.due("test " + k, Check.ask(tests, "often purse=7"), 1);
        }
        c.due("the longest sum", Check.ask(sums, "total " + "(1)+".repeat(398) + "1"), 399);
        c.due("the longest test", Check.ask(tests, "often" + " all and".repeat(198) + " all"), 1);
    }

    private static void quotients(Check c) {
        c.by("/ gives the greatest whole number not above, by 0 it gives 0;");
        sum(c, "6/3", 2);
        sum(c, "7/3", 2);
        sum(c, "8/3", 2);
        sum(c, "9/3", 3);
        sum(c, "2/3", 0);
        sum(c, "0/3", 0);
        sum(c, "(0-6)/3", -2);
        sum(c, "(0-7)/3", -3);
        sum(c, "(0-1)/3", -1);
        sum(c, "(0-1)/9999", -1);
        sum(c, "7/(0-3)", -3);
        sum(c, "6/(0-3)", -2);
        sum(c, "1/(0-9999)", -1);
        sum(c, "(0-7)/(0-3)", 2);
        sum(c, "(0-6)/(0-3)", 2);
        sum(c, "(0-1)/(0-3)", 0);
        sum(c, "0/0", 0);
        sum(c, "5/0", 0);
        sum(c, "(0-5)/0", 0);
        sum(c, "5/(3-3)+4", 4);
        sum(c, "(0-9999*9999)/(0-1)", 1000000);
        sum(c, "9999*9999/1", 1000000);
    }

    private static void greatest(Check c) {
        c.by("each sum, difference, product above 10 to the 6 is that, below -10 to the 6 likewise.");
        sum(c, "1000*999+999", 999999);
        sum(c, "1000*999+1000", 1000000);
        sum(c, "1000*999+1001", 1000000);
        sum(c, "1000*1000", 1000000);
        sum(c, "1001*999", 999999);
        sum(c, "1001*1000", 1000000);
        sum(c, "9999*9999", 1000000);
        sum(c, "1000*1000+1-1", 999999);
        sum(c, "1000*1000-1+1", 1000000);
        sum(c, "9999*9999-9999*100", 100);
        sum(c, "0-1000*999-999", -999999);
        sum(c, "0-1000*999-1000", -1000000);
        sum(c, "0-1000*999-1001", -1000000);
        sum(c, "0-1000*1000-1+1", -999999);
        sum(c, "(0-1000)*1000", -1000000);
        sum(c, "(0-1000)*1001", -1000000);
        sum(c, "(0-1001)*999", -999999);
        sum(c, "1000*(0-1001)", -1000000);
        sum(c, "(0-1001)*(0-1000)", 1000000);
        sum(c, "9999*9999*9999*9999", 1000000);
        sum(c, "(0-9999*9999)*(9999*9999)", -1000000);
        sum(c, "(0-9999*9999)*(0-9999*9999)", 1000000);
        sum(c, "9999*9999+9999*9999", 1000000);
        sum(c, "0-9999*9999-9999*9999", -1000000);
        sum(c, "9999*9999+9999*9999-9999*9999", 0);
        sum(c, "1000*1000/1000*999", 999000);
        sum(c, "max(9999*9999,5)-min(9999*9999,1000*1000)", 0);
    }

    private static void parts(Check c) {
        c.by("(Of a HOLDER in a RING what whom he gets is worth to him, what whom he has is; 1 if he wants whom he gets, else 0;"
                + " salt of whom he gets; how often he MET who gives her to him; coins in his purse; the NIGHT.)");
        String three = "held a salt 0;held b salt 99;held c salt 7;"
                + "holder p has a wants c purse 999;holder q has b wants a purse 0;holder r has c wants c purse 31;"
                + "values p a 1;values p b 2;values p c 3;values q a 40;values q b 50;values q c 60;values r a 99;";
        // The ring p q r: p gets c of r, q gets a of p, r gets b of q.
        String[] words = {"gets", "gives", "wants", "salt", "met", "purse", "night"};
        int[][] due = {{3, 40, 0}, {1, 50, 0}, {1, 1, 0}, {7, 0, 99}, {0, 0, 0}, {999, 0, 31}, {0, 0, 0}};
        int[][] back = {{2, 60, 99}, {1, 50, 0}, {0, 0, 0}, {99, 7, 0}, {0, 0, 0}, {999, 0, 31}, {0, 0, 0}};
        for (int k = 0; k < words.length; k++) {
            WrongCook x = Check.opened(three + "pays " + words[k] + ";");
            Check.judge(x, 0, 1, 2);
            c.due("pays " + words[k], x.judged(1), due[k][0] + due[k][1] + due[k][2]);
            Check.judge(x, 2, 1, 0);
            c.due("the other way round pays " + words[k], x.judged(1), back[k][0] + back[k][1] + back[k][2]);
            for (int holder = 0; holder < 3; holder++) {
                WrongCook y = Check.opened(three + "swaps not " + words[k] + "=" + due[k][holder] + ";");
                int why = Check.judge(y, holder, (holder + 1) % 3, (holder + 2) % 3);
                c.due("does not swap by " + words[k], why * 10 + y.judged(0), 20 + holder);
            }
        }
    }

    private static void met(Check c) {
        c.by("how often he MET who gives her to him; coins in his purse; the NIGHT.)");
        WrongCook x = Check.opened(Told.people("abc") + "pays met*10+night*100;");
        Check.resume(x, Told.sealed(0, 2, 0, 0, 0, 5, 0, 1, 2, 1, 1, 0, 5, 3, 0, 4, 2, 2, 0, 5, 5, 6, 0, 0));
        Check.judge(x, 0, 1);
        c.due("p met q once, q met p thrice", x.judged(1), 200 + 200 + 10 + 30);
        Check.judge(x, 0, 1, 2);
        c.due("p met r, q met p, r met q", x.judged(1), 600 + 20 + 30 + 60);
        Check.judge(x, 2, 1, 0);
        c.due("p met q, q met r, r met p", x.judged(1), 600 + 10 + 40 + 50);
    }

    private static void places(Check c) {
        c.by("TEST, SUM as in I, but PART: N; number; gives; wants; salt; purse; night; met PART; ( SUM ) ; min ( SUM , SUM ) ; max ( SUM , SUM ) .");
        EdgeCaseTest.fault(c, 1, "pays ^number;");
        EdgeCaseTest.fault(c, 1, "swaps ^number=1;");
        EdgeCaseTest.fault(c, 1, "pays met ^1;");
        EdgeCaseTest.fault(c, 1, "pays met^(1);");
        EdgeCaseTest.fault(c, 1, "pays ^held;");
        EdgeCaseTest.fault(c, 1, "pays ^first;");
        EdgeAskTest.fault(c, 1, "total ^gets");
        EdgeAskTest.fault(c, 1, "often ^gets=1");
        EdgeAskTest.fault(c, 1, "total met^");
        EdgeAskTest.fault(c, 1, "total met ^*1");
        EdgeAskTest.fault(c, 1, "total met ^all");
        EdgeAskTest.fault(c, 1, "total met ^gets");
        EdgeAskTest.fault(c, 1, "total ^held");
    }

    private static void sevenOpen(Check c) {
        c.by("4 the 7th of ( [ not that is open at once (not until its FACT ends), at it;");
        EdgeCaseTest.fine(c, "pays ((((((1))))));", 1);
        EdgeCaseTest.fault(c, 4, "pays ((((((^(1)))))));");
        EdgeCaseTest.fine(c, "swaps [[[[[[all]]]]]];", 1);
        EdgeCaseTest.fault(c, 4, "swaps [[[[[[^[all]]]]]]];");
        EdgeCaseTest.fine(c, "swaps not not not not not not all;", 1);
        EdgeCaseTest.fault(c, 4, "swaps not not not not not not ^not all;");
        EdgeCaseTest.fine(c, "swaps not[not[not[all]]];", 1);
        EdgeCaseTest.fault(c, 4, "swaps not[not[not[^not all]]];");
        EdgeCaseTest.fault(c, 4, "swaps not[not[not[^[all]]]];");
        EdgeCaseTest.fault(c, 4, "swaps not[not[not[1<^(1)]]];");
        EdgeCaseTest.fine(c, "swaps not[not[(1)<((1))]];", 1);
        EdgeCaseTest.fault(c, 4, "swaps not[not[((1))<((^(1)))]];");
        EdgeCaseTest.fine(c, "pays (((((min(1,2))))));", 1);
        EdgeCaseTest.fault(c, 4, "pays ((((((min^(1,2)))))));");
        EdgeCaseTest.fault(c, 4, "pays ((((((max^(1,2)))))));");
        EdgeCaseTest.fine(c, "pays max(1,max(1,max(1,max(1,max(1,(1))))));", 1);
        EdgeCaseTest.fault(c, 4, "pays max(1,max(1,max(1,max(1,max(1,(^(1)))))));");
        EdgeCaseTest.fine(c, "pays min(min(min(min(min(min(1,1),1),1),1),1),1);", 1);
        EdgeCaseTest.fault(c, 4, "pays min(min(min(min(min(min(min^(1,1),1),1),1),1),1),1);");
        EdgeCaseTest.fault(c, 1, "pays ((((((^[");
        EdgeCaseTest.fault(c, 1, "pays ((((((^)");
        EdgeCaseTest.fault(c, 1, "swaps [[[[[[^]");
        EdgeCaseTest.fault(c, 4, "pays ((((((^(");
        EdgeCaseTest.fault(c, 4, "swaps [[[[[[^not");
    }

    private static void notEnds(Check c) {
        c.by("(not until its FACT ends), at it;");
        EdgeCaseTest.fine(c, "swaps not not not not not not all and not not not not not not all;", 1);
        EdgeCaseTest.fine(c, "swaps not not not not not not all or not not not not not not all;", 1);
        EdgeCaseTest.fine(c, "swaps not not not not not [all] and [[[[[[all]]]]]];", 1);
        EdgeCaseTest.fine(c, "swaps not not not not not (1)=(1) and ((((((1))))))=1;", 1);
        EdgeCaseTest.fault(c, 4, "swaps not not not not not not 1=^(1);");
        EdgeCaseTest.fault(c, 4, "swaps not not not not not not ^(1)=1;");
        EdgeCaseTest.fault(c, 4, "swaps not not not not not not 1+1*1=1-^(1) and all;");
        EdgeCaseTest.fault(c, 4, "swaps not [ not [ not [ all and ^not all ] ] ];");
        EdgeCaseTest.fine(c, "pays ((((((1))))))+((((((1))))))*min((((((1))))),1);", 1);
    }

    private static void metEnds(Check c) {
        c.by("4 the 7th of ( [ not met that is open at once (not until its FACT, met until its PART ends), at it.");
        WrongCook x = Check.opened("held a salt 1;holder p has a wants a purse 1;");
        String[] fine = {"total met met met met met met 1", "total met met met met met met 1+met met met met met met 1",
            "total met met met met met met 1*met met met met met met 1-((((((1))))))",
            "total met (met (met (1)))", "total met (1)+((((((1))))))", "often not met met met met met 1=met met met met met 1",
            "often not met met met met met 1=1 and met met met met met met 1=1", "often [[[met met met 1=1]]]",
            "total met min(met met met met 1,met met met met 1)", "often not not not not not not all or not not not not not not all"};
        for (String text : fine) {
            c.due(text, Check.ask(x, text) != WrongCook.NOTHING, true);
            c.due("fault of " + text, x.fault(0), 0);
        }
        EdgeAskTest.fault(c, 4, "total met met met met met met ^met 1");
        EdgeAskTest.fault(c, 4, "total 1+met met met met met met ^(1)");
        EdgeAskTest.fault(c, 4, "total met met met met met met min^(1,2)");
        EdgeAskTest.fault(c, 4, "total ((((((^met 1))))))");
        EdgeAskTest.fault(c, 4, "total met(met(met(^met 1)))");
        EdgeAskTest.fault(c, 4, "total met min(met met met met ^met 1,1)");
        EdgeAskTest.fault(c, 4, "often not met met met met met 1=met met met met met ^met 1");
        EdgeAskTest.fault(c, 4, "often [not [not met met ^met 1=1]]");
    }

    private static void sevenOpenAsked(Check c) {
        c.by("4 the 7th of ( [ not met that is open at once (not until its FACT, met until its PART ends), at it.");
        WrongCook x = Check.opened("held a salt 1;holder p has a wants a purse 1;");
        c.due("six (", Check.ask(x, "total ((((((7))))))"), 7);
        c.due("six [", Check.ask(x, "often [[[[[[all]]]]]]"), 1);
        c.due("six not", Check.ask(x, "often not not not not not not all"), 1);
        c.due("five ( and min", Check.ask(x, "total (((((min(7,8))))))"), 7);
        EdgeAskTest.fault(c, 4, "total ((((((^(7)))))))");
        EdgeAskTest.fault(c, 4, "often [[[[[[^[all]]]]]]]");
        EdgeAskTest.fault(c, 4, "often not not not not not not ^not all");
        EdgeAskTest.fault(c, 4, "total ((((((min^(7,8)))))))");
        EdgeAskTest.fault(c, 4, "often [[[[[[^[");
        EdgeAskTest.fault(c, 4, "often [[[[[[^(");
    }
}
