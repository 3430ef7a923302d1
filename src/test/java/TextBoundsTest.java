/** The bounds of TEXTS: TOKENS, NUMBERS, CLAUSES, what is open around one another, and how far what laws say goes. */
public final class TextBoundsTest {
    private static final int NONE = TreesLendRings.NONE;
    private static final int ALL = 0xffffff;

    public static void main(String[] args) {
        everyByte();
        everyLetterStartsAWord();
        theLongestTokens();
        everyNumber();
        negativeNumbersOfDeeds();
        everyWordAsAClause();
        everyNameInEveryLaw();
        clauses();
        eightOpen();
        closedOnesAreNotOpen();
        whatWaitsForTheDeepest();
        theEndAtTheLength();
        theThreeHundredthByte();
        textsOneBehindTheOther();
        asksCompareOnce();
        yearsOfAnOakOnce();
        lawsOnce();
        millions();
        roots();
        ringsOfOaks();
        whatLawsSay();
        bothSidesAlways();
        Due.finish();
    }

    private static void fine(String text) {
        TreesLendRings x = new TreesLendRings();
        Due.is("7: " + text, 0, Due.tell(x, text));
        Due.is("8: " + text, 0, x.fault(0));
        Due.is("8: place of " + text, NONE, x.fault(1));
        Due.is("59: tape of " + text, 0, x.about(7));
    }

    private static void fault(String text, int number, int place) {
        TreesLendRings x = new TreesLendRings();
        Due.is("7: " + text, NONE, Due.tell(x, text));
        Due.is("8: " + text, number, x.fault(0));
        Due.is("8: place in " + text, place, x.fault(1));
        Due.is("59: no text by " + text, 0, x.about(2));
        Due.is("59: tape of " + text, 0, x.about(7));
    }

    /** Of lends, for oak 0's ring of year 0 and person 0. */
    private static long worth(String sum) {
        TreesLendRings x = new TreesLendRings();
        x.oak(ALL);
        x.person(0);
        if (Due.tell(x, "lends " + sum + ";") != 0) {
            return 1000 + x.fault(0);
        }
        x.by(0);
        return x.lends(0, 0, 0);
    }

    private static void sum(String sum, long want) {
        Due.is("20: lends " + sum, want, worth(sum));
    }

    // ---- TOKENS and NUMBERS

    private static void everyByte() {
        for (int b = 0; b < 256; b++) {
            char c = (char) b;
            String text = "ages 1" + c + ";";
            boolean isDigit = c >= '0' && c <= '9';
            if (b == 32 || b == 10 || isDigit) {
                fine(text);
            } else if ("+-*/;".indexOf(c) >= 0) {
                fault(text, 1, 7);
            } else {
                fault(text, 1, 6);
            }
            // Ahead of a text, blanks alone can stand.
            String behind = c + "ages 1;";
            if (b == 32 || b == 10) {
                fine(behind);
            } else {
                fault(behind, 1, 0);
            }
        }
    }

    private static void everyLetterStartsAWord() {
        for (char c = 'A'; c <= 'z'; c++) {
            if (c > 'Z' && c < 'a') {
                fault("ages own" + c + ";", 1, 8);
            } else {
                fault("ages own" + c + ";", 1, 5);
                fault("ages " + c + ";", 1, 5);
                fault(c + " 1;", 1, 0);
            }
        }
        String[] words = {"lends", "ages", "pays", "oak", "year", "person", "lend", "back", "pass", "day"};
        for (String word : words) {
            fault(word.substring(1), 1, 0);
            fault(word.toUpperCase(), 1, 0);
            fault(Character.toUpperCase(word.charAt(0)) + word.substring(1), 1, 0);
            fault(word + word, 1, 0);
            fault(word + " " + word, 1, word.length() + 1);
        }
        fine("lends\n1;");
        fine("ages 1;lends 1;");
        fault("lends1lends", 1, 6);
        fine("oak0;oak1;");
        fine("lend0of0to0;");
        fine("ages if 1<2then 3else 4end;");
        fault("ages if 1<2 thenn 3 else 4 end;", 1, 12);
        fault("ages if 1<2 the 3 else 4 end;", 1, 12);
    }

    private static void theLongestTokens() {
        fine("ages if 1<=2 then 1 else 2 end;");
        fine("ages if 1>=2 then 1 else 2 end;");
        fault("ages if 1<==2 then 1 else 2 end;", 1, 11);
        fault("ages if 1>==2 then 1 else 2 end;", 1, 11);
        fault("ages if 1< =2 then 1 else 2 end;", 1, 11);
        fault("ages if 1=<2 then 1 else 2 end;", 1, 10);
        fault("ages if 1==2 then 1 else 2 end;", 1, 10);
        fault("ages if 1<>2 then 1 else 2 end;", 1, 10);
        fault("ages if 1##2 then 1 else 2 end;", 1, 10);
        fault("ages 1<=2;", 1, 6);
        fault("ages 1=2;", 1, 6);
        fault("ages 12 3;", 1, 8);
        fine("ages 12\n*\n3;");
    }

    /** Where a number stands (at the sign @), and which are told there. */
    private static void everyNumber() {
        String[] places = {"0 23 oak @;", "0 22 oak 23,@;", "0 23 year @ is 0;", "0 3 year 0 is @;", "0 99 person @;",
            "0 23 lend @ of 0 to 0;", "0 4 lend 0 of @ to 0;", "0 4 lend 0 of 0 to @;", "0 23 back @ of 0;",
            "0 4 back 0 of @;", "0 23 pass @ of 0 to 0;", "0 4 pass 0 of @ to 0;", "0 4 pass 0 of 0 to @;", "1 60 day @;",
            "0 9999 lends @;", "0 9999 ages @;", "0 9999 pays @;", "0 9999 ages 1+@;", "0 9999 ages 1*@;", "0 9999 ages -@;",
            "0 9999 ages root @;", "0 9999 ages rings @;", "0 9999 ages (@);", "0 9999 ages if @<1 then 1 else 1 end;",
            "0 9999 ages if not 1<@ then 1 else 1 end;", "0 9999 ages if 1=1 then @ else 1 end;",
            "0 9999 ages if 1=1 then 1 else @ end;"};
        for (String line : places) {
            String[] parts = line.split(" ", 3);
            int least = Integer.parseInt(parts[0]);
            int greatest = Integer.parseInt(parts[1]);
            int at = parts[2].indexOf('@');
            fine(parts[2].replace("@", "" + least));
            fine(parts[2].replace("@", "" + greatest));
            fine(parts[2].replace("@", "0000000000000" + greatest));
            String[] others = {"" + (greatest + (parts[2].startsWith("oak 23") ? 2 : 1)), "10000", "99999", "4294967296",
                "4294967297", "18446744073709551617", "00010000"};
            for (String other : others) {
                fault(parts[2].replace("@", other), 2, at);
            }
            if (least > 0) {
                fault(parts[2].replace("@", "" + (least - 1)), 2, at);
                fault(parts[2].replace("@", "00000"), 2, at);
            }
        }
        sum("9999-9950", 49);
        sum("09999-9950", 49);
        sum("10-010", 0);
    }

    private static void negativeNumbersOfDeeds() {
        fault("oak -1;", 1, 4);
        fault("year -1 is 0;", 1, 5);
        fault("year 0 is -1;", 1, 10);
        fault("person -1;", 1, 7);
        fault("lend -1 of 0 to 0;", 1, 5);
        fault("lend 0 of -1 to 0;", 1, 10);
        fault("lend 0 of 0 to -1;", 1, 15);
        fault("day -1;", 1, 4);
        fault("day (1);", 1, 4);
        fault("day 1+1;", 1, 5);
        fault("day own;", 1, 4);
    }

    // ---- CLAUSES

    private static void everyWordAsAClause() {
        String[] clauses = {"lends 1;", "ages 1;", "pays 1;", "oak 1;", "year 1 is 1;", "person 1;", "lend 1 of 1 to 1;",
            "back 1 of 1;", "pass 1 of 1 to 1;", "day 1;"};
        for (String clause : clauses) {
            fine(clause);
            fault(clause.substring(0, clause.length() - 1), 1, clause.length() - 1);
            fault(clause + ";", 1, clause.length());
            fault(clause + clause.substring(0, 3) + "x;", 1, clause.length());
            fault(clause.replace(";", clause.startsWith("oak") ? "+" : ","), 1, clause.length() - 1);
        }
        String[] none = {"kind", "own", "held", "who", "left", "of", "to", "is", "root", "rings", "if", "then", "else", "end", "or",
            "and", "not", "1", "(", "-", ",", ";", "="};
        for (String word : none) {
            fault(word, 1, 0);
            fault(word + " 1;", 1, 0);
            fault("day 1; " + word + " 1;", 1, 7);
        }
    }

    private static void everyNameInEveryLaw() {
        String[] laws = {"lends", "ages", "pays"};
        String[] names = {"day", "year", "kind", "oak", "own", "held", "who"};
        for (String law : laws) {
            for (String name : names) {
                fine(law + " " + name + ";");
                fine(law + " if " + name + "<(" + name + ") then -" + name + " else root " + name + " end;");
                fault(law + " " + name + " " + name + ";", 1, law.length() + name.length() + 2);
            }
            if (law.equals("ages")) {
                fault("ages left;", 5, 5);
                fault("ages 1+left*2;", 5, 7);
                fault("ages -left;", 5, 6);
                fault("ages rings left;", 5, 11);
                fault("ages if left<1 then 1 else 1 end;", 5, 8);
                fault("ages if 1<2 then 1 else left end;", 5, 24);
                fault("ages own left;", 1, 9);
            } else {
                fine(law + " left;");
                fine("ages 1;" + law + " left;");
                fine(law + " left; ages 1;");
            }
            String[] noNames = {"person", "lend", "back", "pass", "lends", "ages", "pays", "of", "to", "is", "then", "else", "end",
                "or", "and", "not", "foo"};
            for (String word : noNames) {
                fault(law + " " + word + ";", 1, law.length() + 1);
            }
        }
    }

    private static void clauses() {
        String[] kinds = {"oak 1;", "year 1 is 1;", "person 1;", "lend 1 of 1 to 1;", "back 1 of 1;", "pass 1 of 1 to 1;", "day 1;"};
        String[] firsts = {"oak", "year", "person", "lend", "back", "pass", "day", "lends", "ages", "pays"};
        String many = "day 1;".repeat(24);
        fine(many);
        fine(many + " \n");
        for (String first : firsts) {
            fault(many + first, 6, 144);
            fault(many + "  " + first + " 1 1 1", 6, 146);
            fault("day 1;".repeat(23) + first + "+", 1, 138 + first.length());
        }
        fault(many + "foo", 1, 144);
        fault(many + "12", 1, 144);
        for (String kind : kinds) {
            String mixed = "ages 1;" + "day 1;".repeat(22) + kind;
            fine(mixed);
            fault(mixed + "pays 1;", 6, mixed.length());
            fault(mixed + "ages 1;", 4, mixed.length());
            fault(mixed + kind, 6, mixed.length());
        }
    }

    // ---- what is open around one another

    /** What opens one (the last two) up to where the next may stand, and what is needed behind that. */
    private static final String[][] OPENINGS = {{"(", ")"}, {"-", ""}, {"root ", ""}, {"rings ", ""},
        {"if ", "<1 then 1 else 1 end"}, {"if 1<", " then 1 else 1 end"}, {"if 1=1 then ", " else 1 end"},
        {"if 1=1 then 1 else ", " end"}, {"if 1=1 and 1#", " then 1 else 1 end"}, {"if 1=1 or 1#", " then 1 else 1 end"},
        {"(3*", ")"}, {"(2+", ")"}, {"if not 1<", " then 1 else 1 end"}};

    private static int opens(String[] opening) {
        return opening[0].startsWith("if not") ? 2 : 1;
    }

    private static void eightOpen() {
        for (String[] one : OPENINGS) {
            for (String[] other : OPENINGS) {
                StringBuilder ahead = new StringBuilder("ages ");
                StringBuilder behind = new StringBuilder();
                int open = 0;
                for (int i = 0; i < 8 && open < 8; i++) {
                    String[] next = i % 2 == 0 ? one : other;
                    if (open + opens(next) > 8) {
                        continue;
                    }
                    open += opens(next);
                    ahead.append(next[0]);
                    behind.insert(0, next[1]);
                }
                if (ahead.length() + behind.length() > 250) {
                    continue;
                }
                while (open < 8) {
                    ahead.append("(");
                    behind.insert(0, ")");
                    open++;
                }
                fine(ahead + "1" + behind + ";");
                fine(ahead + "own-1" + behind + ";");
                for (String ninth : new String[] {"(1)", "-1", "root 1", "rings 1", "if 1=1 then 1 else 1 end"}) {
                    fault(ahead + ninth + behind + ";", 3, ahead.length());
                }
                fault(ahead + ";", 1, ahead.length());
                fault(ahead + "10000", 2, ahead.length());
                fault(ahead + "left", 5, ahead.length());
                fault(ahead + "not", ahead.toString().endsWith("if ") ? 3 : 1, ahead.length());
            }
        }
        // not is the ninth itself, and ends with its ASK.
        fine("ages (((((((if 1=1 then 1 else 1 end)))))));");
        fault("ages (((((((if not 1=1 then 1 else 1 end)))))));", 3, 15);
        fine("ages ((((((if not 1=1 then 1 else 1 end))))));");
        fault("ages ((((((if not not 1=1 then 1 else 1 end))))));", 3, 18);
        fine("ages ((((((if not 1=1 and (1)=1 or not 1=1 then (1) else -1 end))))));");
        fault("ages ((((((if not 1=1 and not (1)=1 then 1 else 1 end))))));", 3, 30);
        fault("ages ((((((if not 1=(1) then 1 else 1 end))))));", 3, 20);
    }

    private static void closedOnesAreNotOpen() {
        String eight = "((((((((1))))))))";
        fine("ages " + eight + "-" + eight + "*" + eight + ";");
        fine("ages " + eight + ";lends " + eight + ";pays " + eight + ";");
        fine("ages --------1---------1+root root root root root root root root 1;");
        fault("ages --------1----------1;", 3, 23);
        String seven = "(((((((1)))))))";
        fine("ages if " + seven + "<" + seven + " or " + seven + "<" + seven + " then " + seven + " else " + seven + " end+" + eight + ";");
        fault("ages if " + seven + "<" + eight + " then 1 else 1 end;", 3, 5 + 3 + seven.length() + 1 + 7);
    }

    /** In each of seven levels an ask, another one, a number to compare, a summand and a factor wait for the next level. */
    private static void whatWaitsForTheDeepest() {
        for (int deepest = 0; deepest <= 1; deepest++) {
            String sum = "(7*" + deepest + ")";
            for (int i = 0; i < 7; i++) {
                sum = "if 1<1or 0<1and 0<0+1*" + sum + " then 1else 0end";
            }
            sum(sum, deepest);
            sum = "" + deepest;
            for (int i = 0; i < 8; i++) {
                sum = "(9*9-9*9+" + sum + ")";
            }
            sum(sum, deepest);
        }
    }

    private static void theEndAtTheLength() {
        String[] unended = {"lends", "lends 1", "lends 1+", "lends (1", "lends if", "lends if 1", "lends if 1<", "lends if 1<2",
            "lends if 1<2 then", "lends if 1<2 then 3", "lends if 1<2 then 3 else", "lends if 1<2 then 3 else 4", "oak", "oak 1",
            "oak 1,", "year", "year 1", "year 1 is", "year 1 is 2", "person", "person 1", "lend", "lend 1", "lend 1 of",
            "lend 1 of 1", "lend 1 of 1 to", "lend 1 of 1 to 1", "back", "back 1", "back 1 of", "back 1 of 1", "pass 1 of 1 to",
            "day", "day 1", "lends -", "lends root", "lends rings", "lends if not", "lends if 1<2 and", "lends if 1<2 or"};
        for (String text : unended) {
            fault(text, 1, text.length());
            fault(text + " ", 1, text.length() + 1);
            fault(text + "\n  ", 1, text.length() + 3);
            fault(text + " ".repeat(300 - text.length()), 1, 300);
            // What is behind what the tape has isn't read.
            TreesLendRings x = new TreesLendRings();
            Due.put(x, text + "         ;;1");
            x.end(text.length());
            Due.is("7: the first bytes alone: " + text, NONE, x.text());
            Due.is("8: at the length: " + text, text.length(), x.fault(1));
        }
    }

    /** A TOKEN that the last byte of a full tape is, or begins. */
    private static void theThreeHundredthByte() {
        String open = "ages if " + "1+".repeat(145) + "1";
        for (String last : new String[] {"<", ">", "=", "#", "+", "-", "*", "/", "9"}) {
            fault(open + last, 1, 300);
        }
        for (String last : new String[] {"(", ")", ",", ";", "x", "$", "\u00ff"}) {
            fault(open + last, 1, 299);
        }
        fault(open + " ", 1, 300);
        fault("ages " + "1+".repeat(146) + "own", 1, 300);
        fault("ages " + "1+".repeat(146) + "owx", 1, 297);
        fault("ages " + "1+".repeat(147) + "(", 1, 300);
        fine("ages 1;" + " ".repeat(292) + "\n");
        fine(" ".repeat(294) + "day 1;");
        fault(" ".repeat(295) + "day 1", 1, 300);
        fault(" ".repeat(299) + "d", 1, 299);
    }

    /** However much was read before, with FAULTS or without, a text is read as if it were the first. */
    private static void textsOneBehindTheOther() {
        TreesLendRings x = new TreesLendRings();
        x.oak(ALL);
        x.person(0);
        String some = "lends " + "1+".repeat(140) + "1;";
        for (int i = 0; i < 12; i++) {
            Due.is("7: with a FAULT", NONE, Due.tell(x, some + "ages"));
            Due.is("8: it", 1, x.fault(0));
            Due.is("8: at the length", some.length() + 4, x.fault(1));
        }
        for (int i = 0; i < 4; i++) {
            Due.is("7: without", i, Due.tell(x, "lends " + "1+".repeat(i) + "1;"));
        }
        for (int i = 0; i < 4; i++) {
            x.by(i);
            Due.is("20: its own", i + 1, x.lends(0, 0, 0));
            Due.is("21: none of another's", 7, x.pays(0, 0, 0));
        }
    }

    private static void asksCompareOnce() {
        fault("ages if 1 then 2 else 3 end;", 1, 10);
        fault("ages if 1 and 1=1 then 2 else 3 end;", 1, 10);
        fault("ages if 1 or 1=1 then 2 else 3 end;", 1, 10);
        fault("ages if not 1 then 2 else 3 end;", 1, 14);
        fault("ages if not 1 and 1=1 then 2 else 3 end;", 1, 14);
        fault("ages if 1=1 and 1 then 2 else 3 end;", 1, 18);
        fault("ages if 1=1 or 1 then 2 else 3 end;", 1, 17);
        fault("ages if 1=1 or or 1=1 then 2 else 3 end;", 1, 15);
        fault("ages if or 1=1 then 2 else 3 end;", 1, 8);
        fault("ages if 1=1 and then 2 else 3 end;", 1, 16);
        fault("ages if 1= then 2 else 3 end;", 1, 11);
        fault("ages if =1 then 2 else 3 end;", 1, 8);
        fault("ages if 1=1=1 then 2 else 3 end;", 1, 11);
        fault("ages if 1=not 1=1 then 2 else 3 end;", 1, 10);
        fault("ages if (1=1) then 2 else 3 end;", 1, 10);
        fault("ages if then 2 else 3 end;", 1, 8);
        fault("ages if 1=1 then else 3 end;", 1, 17);
        fault("ages if 1=1 then 2 else end;", 1, 24);
        fault("ages if 1=1 then 2 end;", 1, 19);
        fault("ages if 1=1 then 2 else 3 else 4 end;", 1, 26);
        fault("ages if 1=1 then 2 else 3;", 1, 25);
        fault("ages if 1=1 then 2=2 else 3 end;", 1, 18);
        fine("ages if not(1)=1 then 2 else 3 end;");
        fine("ages if 1+1=2*1 and(1)=1 then 2 else 3 end;");
    }

    private static void yearsOfAnOakOnce() {
        StringBuilder all = new StringBuilder("oak 0");
        for (int y = 1; y < 24; y++) {
            all.append(",").append(y);
        }
        fine(all + ";");
        for (int y = 0; y < 24; y++) {
            fault(all + "," + y + ";", 7, all.length() + 1);
            fault("oak " + y + "," + y, 7, y < 10 ? 6 : 7);
        }
        fault(all + ",24;", 2, all.length() + 1);
        fault(all + ",;", 1, all.length() + 1);
        fine("oak 3; oak 3;");
        TreesLendRings x = new TreesLendRings();
        Due.tell(x, all + "; oak 23; oak 0,23,1;");
        x.played(0);
        Due.is("14: all years", ALL, x.ofOak(0, 1));
        Due.is("14: the last", 1 << 23, x.ofOak(1, 1));
        Due.is("14: in any order", 1 << 23 | 3, x.ofOak(2, 1));
    }

    private static void lawsOnce() {
        String[] laws = {"lends", "ages", "pays"};
        for (String law : laws) {
            fault(law + " 1;" + law + " 1;", 4, law.length() + 3);
            fault(law + " 1;" + law, 4, law.length() + 3);
            fault(law + " 1;day 1;" + law + " 10000;", 4, law.length() + 9);
            fault(law + " 1 " + law + " 1;", 1, law.length() + 3);
            for (String other : laws) {
                if (!other.equals(law)) {
                    fine(law + " 1;" + other + " 1;");
                }
            }
        }
        fine("pays 1;lends 1;ages 1;");
    }

    // ---- how far numbers and laws go

    /** 999 * 1001 is 999999. */
    private static void millions() {
        sum("1000*1000-999*1001", 1);
        sum("999*1001+1-999*1001", 1);
        sum("999*1001+2-999*1001", 1);
        sum("1000*1000+1-999*1001", 1);
        sum("999*1001+0-999*1001", 0);
        sum("9999*9999-999*1001", 1);
        sum("999*1001-1000*1000", -1);
        sum("-1000*1000+999*1001", -1);
        sum("-999*1001-1+999*1001", -1);
        sum("-999*1001-2+999*1001", -1);
        sum("-1000*1000-1+999*1001", -1);
        sum("9999*-9999+999*1001", -1);
        sum("-9999*-9999-999*1001", 1);
        sum("-(9999*9999)+999*1001", -1);
        sum("-(9999*-9999)-999*1001", 1);
        sum("1000*1000*1000*1000*0", 0);
        sum("9999*9999*9999/1000/1000*7", 7);
        sum("1000*1000+1000*1000-1000*1000", 0);
        sum("-1000*1000-1000*1000+1000*1000", 0);
        sum("1000*1000/-1/1000/1000", -1);
        sum("if 9999*9999=1000*1000 then 1 else 2 end", 1);
        sum("if 9999*9999<1000*1000+1 then 1 else 2 end", 2);
        sum("if -9999*9999=-1000*1000 then 1 else 2 end", 1);
        sum("root(9999*9999)-1000", 0);
        sum("root(-9999*9999)", 0);
        sum("rings(9999*9999)", 0);
        sum("rings(-9999*9999)", 0);
    }

    /** Each square, the number below it and the one below the next square. */
    private static void roots() {
        sum("root 0", 0);
        sum("root(0-1)", 0);
        sum("root 1", 1);
        sum("root 2", 1);
        sum("root 9999", 99);
        sum("root 9998", 99);
        String law = "lends if root(day*day)=day and root(day*day-1)=day-1 and root(day*day+day*2)=day"
            + " and root(0-day*day)=0 then 7 else 5 end;";
        for (int from = 0; from < 1000; from += 200) {
            TreesLendRings x = new TreesLendRings();
            x.oak(1);
            x.person(1);
            Due.tell(x, law);
            x.by(0);
            for (int day = 0; day < from; day += 40) {
                x.day(40);
            }
            for (int day = from + 1; day <= from + 200; day++) {
                x.day(1);
                Due.is("20: root on DAY " + day, 7, x.lends(0, 0, 0));
            }
        }
    }

    private static void ringsOfOaks() {
        for (int oaks = 1; oaks <= 5; oaks++) {
            TreesLendRings x = new TreesLendRings();
            for (int i = 0; i < oaks; i++) {
                x.oak((1 << 20 + i) - 1);
            }
            x.person(0);
            Due.tell(x, "lends rings year; pays rings(year-2)-18; ages rings oak;");
            x.by(0);
            for (int y = 0; y < 20; y++) {
                Due.is("20: rings " + y + " of " + oaks, y < oaks ? 20 + y : 0, x.lends(0, y, 0));
                int two = y >= 2 && y < oaks + 2 ? y : 0;
                Due.is("21: rings " + (y - 2) + " of " + oaks, two, x.pays(0, y, 0));
            }
            x.lend(0, 0, 0);
            Due.is("20: one is lent", 19, x.lends(0, 0, 0));
            Due.is("17: in ages", 19, x.of(0, 1));
        }
    }

    private static void whatLawsSay() {
        int[] says = {-9999, -101, -100, -99, -98, -11, -10, -9, -8, -1, 0, 1, 9, 10, 11, 12, 98, 99, 100, 101, 9999};
        for (int n : says) {
            TreesLendRings x = new TreesLendRings();
            x.oak(ALL);
            x.person(40);
            x.lend(0, 0, 0);
            Due.is("7: laws of " + n, 0, Due.tell(x, "lends " + n + ";ages " + n + ";pays " + n + ";"));
            Due.is("20: without", 1, x.lends(0, 0, 0));
            Due.is("21: without", 7, x.pays(0, 0, 0));
            Due.is("17: without", 41, x.of(0, 1));
            x.by(0);
            Due.is("20: lends " + n, Math.max(-99, Math.min(99, n)), x.lends(0, 0, 0));
            Due.is("21: pays " + n, Math.max(0, Math.min(10, n)), x.pays(0, 0, 0));
            Due.is("17: ages " + n, 40 + Math.max(-9, Math.min(99, n)), x.of(0, 1));
            x.said(0, 40 + Math.max(-9, Math.min(99, n)));
            Due.is("49: ages " + n, 1, x.whose());
        }
    }

    private static void bothSidesAlways() {
        sum("if 1=1 or 1/0=5 then 3 else 4 end", 3);
        sum("if 1=2 and 1/0=0 then 3 else 4 end", 4);
        sum("if 1/0=0 then 3 else 4 end", 3);
        sum("0/0", 0);
        sum("-5/0+2", 2);
        sum("5/(3-3)*9", 0);
        sum("1/2", 0);
        sum("-1/2", 0);
        sum("1/-2", 0);
        sum("-3/2", -1);
        sum("3/-2", -1);
        sum("-4/2", -2);
    }
}
