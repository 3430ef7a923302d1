/** The language of TEXTS: what its SUMS say, and where its FAULTS are (promises 7, 8, 14, 17, 20, 21). */
public final class LanguageTest {
    private static final int NONE = TreesLendRings.NONE;

    public static void main(String[] args) {
        sums();
        bounds();
        roots();
        rings();
        choices();
        names();
        tokens();
        ends();
        clauses();
        faultsOfStanding();
        faultsOfNumbers();
        faultsOfDepth();
        otherFaults();
        theLeastFault();
        agesWithout();
        Due.finish();
    }

    /** What lends says by a sum: of oak 1's ring of year 5 (a wet one) for person 1, on day 3, with two rings held. */
    private static long worth(String sum) {
        TreesLendRings x = new TreesLendRings();
        x.oak(0xffffff);
        x.oak(0x7fff);
        x.person(10);
        x.person(50);
        x.year(5, 1);
        x.lend(0, 0, 1);
        x.lend(1, 0, 1);
        x.day(3);
        if (Due.tell(x, "lends " + sum + ";") != 0) {
            return 1000 + x.fault(0);
        }
        x.by(0);
        return x.lends(1, 5, 1);
    }

    private static void sum(String sum, long want) {
        Due.is("20: lends " + sum, want, worth(sum));
    }

    private static void sums() {
        sum("7", 7);
        sum("007", 7);
        sum("1-2-3", -4);
        sum("2+3*4", 14);
        sum("(2+3)*4", 20);
        sum("2*3+4", 10);
        sum("24/4/2", 3);
        sum("2*7/3", 4);
        sum("7/3*2", 4);
        sum("7/2", 3);
        sum("-7/2", -3);
        sum("7/-2", -3);
        sum("-7/-2", 3);
        sum("(0-1)/2", 0);
        sum("7/0", 0);
        sum("0-7/0", 0);
        sum("--7", 7);
        sum("- - -7", -7);
        sum("5--3", 8);
        sum("5-+3", 1001);
        sum("-2*3", -6);
        sum("-(2+3)", -5);
        sum("((((((((8))))))))", 8);
    }

    private static void bounds() {
        sum("9999*9999/9999-90", 10);
        sum("(0-9999)*9999/9999+90", -10);
        sum("1000*1000+5-1000*1000", 0);
        sum("1000*1000-5-999*1000-900-90", 5);
        sum("0-1000*1000-5+1000*1000", 0);
        sum("-1000*1000/1000/1000", -1);
        sum("1000*1000*1000*1000*1000*1000*1000/9999/2", 50);
        sum("100", 99);
        sum("99", 99);
        sum("-100", -99);
    }

    private static void roots() {
        sum("root 0", 0);
        sum("root 1", 1);
        sum("root 3", 1);
        sum("root 4", 2);
        sum("root 99", 9);
        sum("root 9801", 99);
        sum("root 9800", 98);
        sum("root 16*4", 16);
        sum("root(16*4)", 8);
        sum("root root 81", 3);
        sum("root -9", 0);
        sum("-root 9", -3);
        sum("root(1000*1000)-950", 50);
        sum("root(1000*1000-1)-950", 49);
        sum("root(512*512)-500", 12);
        sum("root if 1<2 then 49 else 4 end", 7);
    }

    private static void rings() {
        sum("rings 0", 23);
        sum("rings 1", 14);
        sum("rings 2", 0);
        sum("rings 5", 0);
        sum("rings -1", 0);
        sum("rings 9999", 0);
        sum("rings oak", 14);
        sum("rings (oak-1)", 23);
        sum("rings oak-1", 13);
        sum("rings rings 2", 23);
    }

    private static void choices() {
        sum("if 1<2 then 3 else 4 end", 3);
        sum("if 2<2 then 3 else 4 end", 4);
        sum("if 2<=2 then 3 else 4 end", 3);
        sum("if 3<=2 then 3 else 4 end", 4);
        sum("if 3>2 then 3 else 4 end", 3);
        sum("if 2>2 then 3 else 4 end", 4);
        sum("if 2>=2 then 3 else 4 end", 3);
        sum("if 1>=2 then 3 else 4 end", 4);
        sum("if 2=2 then 3 else 4 end", 3);
        sum("if 2=3 then 3 else 4 end", 4);
        sum("if 2#3 then 3 else 4 end", 3);
        sum("if 2#2 then 3 else 4 end", 4);
        sum("if not 2#2 then 3 else 4 end", 3);
        sum("if not not 2#2 then 3 else 4 end", 4);
        sum("if not 1=1 or 1=1 then 3 else 4 end", 3);
        sum("if not 1=2 and 1=2 then 3 else 4 end", 4);
        sum("if 1=1 or 1=1 and 1=2 then 3 else 4 end", 3);
        sum("if 1=2 and 1=1 or 1=1 then 3 else 4 end", 3);
        sum("if 1=2 and 1=1 then 3 else 4 end", 4);
        sum("if 1=1 and 1=2 then 3 else 4 end", 4);
        sum("if 1=1 and 2=2 and 3=3 then 3 else 4 end", 3);
        sum("if 1=2 or 2=3 or 3=4 then 3 else 4 end", 4);
        sum("if 1=2 or 2=3 or 3=3 then 3 else 4 end", 3);
        sum("if 1<2 and 2=2 and 2#3 and not 2#2 then 3 else 4 end", 3);
        sum("if 2#3 and 1<=1 and 2>1 and 2>=2 and not 1=2 then 3 else 4 end", 3);
        sum("if 1+1=2 then 3+1 else 4 end*2", 8);
        sum("10-if 1=1 then 3 else 4 end-1", 6);
        sum("if 1=2 then 1 else if 1=1 then 5 else 6 end end", 5);
        sum("if if 1=1 then 2 else 3 end=2 then 7 else 8 end", 7);
        sum("if 1=1 then if 1=2 then 5 else 6 end else 9 end", 6);
        sum("if 0-1<0 then 1/0 else 5 end+2", 2);
    }

    private static void names() {
        sum("day", 3);
        sum("year", 5);
        sum("kind", 1);
        sum("oak", 1);
        sum("own", 50);
        sum("held", 2);
        sum("who", 1);
        sum("left", 14);
        TreesLendRings x = new TreesLendRings();
        x.oak(0x7fff);
        x.person(1);
        x.person(2);
        x.year(4, 2);
        Due.is("7: names in pays", 0, Due.tell(x, "pays left-year-kind*own-who-held-oak-day;"));
        Due.is("7: names in ages", 1, Due.tell(x, "ages year+kind*own+who*7+held*3+oak+day;"));
        x.by(0);
        x.lend(0, 4, 1);
        Due.is("21: pays", 14 - 4 - 2 * 2 - 1 - 1, x.pays(0, 4, 1));
        x.by(1);
        Due.is("17: ages", 2 + 4 + 2 * 2 + 7 + 3, x.of(1, 1));
        x.day(2);
        Due.is("17: ages on another day", 2 + 4 + 2 * 2 + 7 + 3 + 2, x.of(1, 1));
    }

    private static void tokens() {
        sum(" 1\n+\n 2 ", 3);
        sum("if 1<=1then 3else 4end", 3);
        sum("if 1< =1 then 3 else 4 end", 1001);
        sum("if 1=>1 then 3 else 4 end", 1001);
        sum("1 0", 1001);
        sum("roots 4", 1001);
        sum("root4", 2);
        fault("Lends 1;", 1, 0);
        fault("lendS 1;", 1, 0);
        fault("lends Held;", 1, 6);
        fault("lendsz 1;", 1, 0);
        fault("lendsa 1;", 1, 0);
        fault("lendsZ 1;", 1, 0);
        fault("lendsA 1;", 1, 0);
        fault("lends` 1;", 1, 5);
        fault("lends{ 1;", 1, 5);
        fault("lends@ 1;", 1, 5);
        fault("lends[ 1;", 1, 5);
        fault("lends if 1<=", 1, 12);
        fault("lends if 1<", 1, 11);
        fault(";".repeat(300), 1, 0);
        fault("lends 1" + "+1".repeat(146) + "+", 1, 300);
        fine("lends" + "1+".repeat(146) + "99;");
        fault("lends\t1;", 1, 5);
        fault("lends 1\r;", 1, 7);
        fault("lends 1%2;", 1, 7);
        fault("lends 1\u00e9;", 1, 7);
        fault("lends 1\u0000", 1, 7);
        fault("lends 1:", 1, 7);
        fault("lend s 1;", 1, 5);
        fault("lendsages 1;", 1, 0);
        fine("lends\n\n1 ; ages(1);");
        fine("oak0,1 ,2\n, 3;");
    }

    /** What was on the tape behind its end isn't read. */
    private static void ends() {
        TreesLendRings x = new TreesLendRings();
        Due.put(x, "lends whox");
        x.end(9);
        Due.is("7: up to the end", NONE, x.text());
        Due.is("8: a word up to the end", 9, x.fault(1));
        Due.put(x, "day 612");
        x.end(5);
        Due.is("7: up to the end", NONE, x.text());
        Due.is("8: a number up to the end", 1, x.fault(0));
        Due.put(x, "day 6;$");
        x.end(6);
        Due.is("6: without its end it is a text", 0, x.text());
        Due.put(x, "oak 1;");
        x.end(0);
        Due.is("6: nothing is left", 1, x.text());
        Due.is("14: nothing is done", NONE, x.played(1));
        Due.is("14: no oak", 0, x.about(0));
    }

    private static void clauses() {
        fine("");
        fine("\n \n");
        fine("pays 1;");
        fine("lends 1; ages 1; pays 1; oak 1; year 0 is 0; person 0; lend 0 of 0 to 0; back 0 of 0; pass 0 of 0 to 0; day 1;");
        fine("oak 0,1,2,3,4,5,6,7,8,9,10,11,12,13,14,15,16,17,18,19,20,21,22,23;");
        fine("oak 1;oak 1;oak 1;");
        fine("year 23 is 3;person 99;lend 23 of 4 to 4;back 23 of 4;pass 23 of 4 to 4;day 60;");
        StringBuilder many = new StringBuilder();
        for (int i = 0; i < 24; i++) {
            many.append("person 1;");
        }
        fine(many.toString());
        fault(many + "day 1;", 6, 216);
        fault(many + "ages 1;", 6, 216);
        fault(many + " ;", 1, 217);
        fault(many + "x", 1, 216);
        fault("ages 1;" + many.substring(9) + "ages 1;", 4, 214);
        fault("ages 1;" + many.substring(9) + "pays 1;", 6, 214);
    }

    private static void fine(String text) {
        TreesLendRings x = new TreesLendRings();
        Due.is("7: " + text, 0, Due.tell(x, text));
        Due.is("8: " + text, 0, x.fault(0));
        Due.is("8: place of " + text, NONE, x.fault(1));
    }

    private static void fault(String text, int number, int place) {
        TreesLendRings x = new TreesLendRings();
        Due.is("7: " + text, NONE, Due.tell(x, text));
        Due.is("8: " + text, number, x.fault(0));
        Due.is("8: place in " + text, place, x.fault(1));
        Due.is("7: no text by " + text, 0, x.about(2));
    }

    private static void faultsOfStanding() {
        fault("lends", 1, 5);
        fault("lends ", 1, 6);
        fault("lends 1", 1, 7);
        fault("lends ;", 1, 6);
        fault("lends 1;;", 1, 8);
        fault("1;", 1, 0);
        fault("root 1;", 1, 0);
        fault("kind 1;", 1, 0);
        fault("is", 1, 0);
        fault(";", 1, 0);
        fault("lends (1;", 1, 8);
        fault("lends 1);", 1, 7);
        fault("lends 1+;", 1, 8);
        fault("lends *1;", 1, 6);
        fault("lends then;", 1, 6);
        fault("lends if 1=1 then 2 end;", 1, 20);
        fault("lends if 1=1 then 2 else 3;", 1, 26);
        fault("lends if 1=1 else 3 end;", 1, 13);
        fault("lends if (1=1) then 2 else 3 end;", 1, 11);
        fault("lends if 1=1=1 then 2 else 3 end;", 1, 12);
        fault("lends if and then 2 else 3 end;", 1, 9);
        fault("lends if 1=1 not 1=1 then 2 else 3 end;", 1, 13);
        fault("lends not 1;", 1, 6);
        fault("lends to;", 1, 6);
        fault("lends lends;", 1, 6);
        fault("lends person;", 1, 6);
        fault("oak;", 1, 3);
        fault("oak ,1;", 1, 4);
        fault("oak 1 2;", 1, 6);
        fault("oak year;", 1, 4);
        fault("oak -1;", 1, 4);
        fault("year 1 of 1;", 1, 7);
        fault("year is 1;", 1, 5);
        fault("year 1 is;", 1, 9);
        fault("year 1 is 1 1;", 1, 12);
        fault("person;", 1, 6);
        fault("person own;", 1, 7);
        fault("lend 1 to 1;", 1, 7);
        fault("lend 1 of 1;", 1, 11);
        fault("lend 1 of 1 to;", 1, 14);
        fault("lend of 1 to 1;", 1, 5);
        fault("back 1 of 1 to 1;", 1, 12);
        fault("back 1;", 1, 6);
        fault("pass 1 of 1 of 1;", 1, 12);
        fault("day;", 1, 3);
        fault("day 1", 1, 5);
        fault("day 1,", 1, 5);
    }

    private static void faultsOfNumbers() {
        fault("lends 10000;", 2, 6);
        fault("lends 1+99999999999999999999999999;", 2, 8);
        fine("lends 9999+00000000000000009999;");
        fault("lends 1 10000;", 1, 8);
        fault("oak 24;", 2, 4);
        fault("oak 1,10000;", 2, 6);
        fault("oak 1, 24;", 2, 7);
        fault("year 24 is 0;", 2, 5);
        fault("year 0 is 4;", 2, 10);
        fault("person 100;", 2, 7);
        fault("lend 24 of 0 to 0;", 2, 5);
        fault("lend 0 of 5 to 0;", 2, 10);
        fault("lend 0 of 0 to 5;", 2, 15);
        fault("back 24 of 0;", 2, 5);
        fault("back 0 of 5;", 2, 10);
        fault("pass 24 of 0 to 0;", 2, 5);
        fault("pass 0 of 5 to 0;", 2, 10);
        fault("pass 0 of 0 to 5;", 2, 15);
        fault("day 0;", 2, 4);
        fault("day 61;", 2, 4);
        fault("day 61", 2, 4);
    }

    private static void faultsOfDepth() {
        fine("lends ((((((((1))))))));");
        fault("lends (((((((((1)))))))));", 3, 14);
        fine("lends --------1;");
        fault("lends ---------1;", 3, 14);
        fine("lends root rings root rings root rings root rings 1;");
        fault("lends root rings root rings root rings root rings root 1;", 3, 50);
        fault("lends root rings root rings root rings root rings (1);", 3, 50);
        fine("lends ((((((((1))))))))+((((((((1))))))));");
        fine("lends 1-((((((((1))))))));");
        fault("lends -((((((((1))))))));", 3, 14);
        fine("lends if not ((((((1))))))=1 then 1 else 2 end;");
        fault("lends if not (((((((1)))))))=1 then 1 else 2 end;", 3, 19);
        fine("lends if not 1=1 and not 1=1 and (((((((1)))))))=1 then 1 else 2 end;");
        fine("lends if not not not not not not not 1=1 then 1 else 2 end;");
        fault("lends if not not not not not not not not 1=1 then 1 else 2 end;", 3, 37);
        fault("lends if not not not not not not not 1=(1) then 1 else 2 end;", 3, 39);
        fine("lends if 1=1 then (((((((1))))))) else (((((((1))))))) end+((((((((1))))))));");
        fault("lends if 1=1 then ((((((((1)))))))) else 1 end;", 3, 25);
        fault("lends if 1=1 then 1 else ((((((((1)))))))) end;", 3, 32);
        fault("lends ((((((((if 1=1 then 1 else 2 end))))))));", 3, 14);
        fault("lends ((((((((root 1))))))));", 3, 14);
        fault("lends ((((((((rings 1))))))));", 3, 14);
        fault("lends ((((((((-1))))))));", 3, 14);
        fine("lends ((((((((1-1))))))));");
    }

    private static void otherFaults() {
        fault("lends 1;lends 1;", 4, 8);
        fault("ages 1;pays 1;ages 1;", 4, 14);
        fault("pays 1;pays", 4, 7);
        fault("ages left;", 5, 5);
        fault("ages 1+(left);", 5, 8);
        fault("lends left;ages left;", 5, 16);
        fine("ages 1;lends left;pays left;");
        fault("oak 3,4,3;", 7, 8);
        fault("oak 23,23;", 7, 7);
        fault("oak 0,00;", 7, 6);
    }

    private static void theLeastFault() {
        fault("ages 1 left;", 1, 7);
        fault("oak left;", 1, 4);
        fault("ages ((((((((*;", 1, 13);
        fault("ages (((((((( left;", 5, 14);
        fault("ages (((((((( 10000;", 2, 14);
        fault("ages 10000 left lends;", 2, 5);
        fault("day 61 10000;", 2, 4);
        fault("ages if 1=1 then left", 5, 17);
    }

    private static void agesWithout() {
        TreesLendRings x = new TreesLendRings();
        x.oak(0xffffff);
        x.person(10);
        for (int kind = 0; kind < 4; kind++) {
            x.year(kind, kind);
            x.lend(0, kind, 0);
        }
        Due.is("17: 1, 2, 0, 1", 14, x.of(0, 1));
        Due.tell(x, "lends 1;");
        x.by(0);
        Due.is("17: a text without ages", 14, x.of(0, 1));
        Due.tell(x, "ages 0-100;");
        x.by(1);
        Due.is("17: -9 at least", 10 - 36, x.of(0, 1));
        Due.tell(x, "ages 100;");
        x.by(2);
        Due.is("17: 99 at most", 10 + 4 * 99, x.of(0, 1));
        Due.is("20: without lends", 1, x.lends(0, 0, 0));
        Due.is("21: without pays", 7, x.pays(0, 0, 0));
    }
}
