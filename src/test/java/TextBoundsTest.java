/** Promises 4 and 5: each sentence of II that names a boundary, at the last that is in and the first that is out. */
public final class TextBoundsTest {
    private static final int SYNTAX = 1;
    private static final int ROOM = 2;
    private static final int TWICE = 3;
    private static final int NAME = 4;
    private static final int TYPE = 5;

    private static final String HEAD = "type a; type b of a; type c; sort s : a -> a; sort t : b -> c; ";
    private static final String TWO = HEAD + "rule r node x : a; node y : b; link l : x - s -> y; ";
    private static final String[] WORDS = {"type", "of", "sort", "rule", "proc", "end", "node", "link", "merge", "not",
        "if", "del", "new", "join", "set", "do", "all", "any", "call", "fail", "while", "loop", "try", "then", "else"};

    public static void main(String[] args) {
        Bench bench = new Bench("TextBoundsTest");
        fourThousandBytes(bench);
        blanks(bench);
        letters(bench);
        digits(bench);
        longest(bench);
        words(bench);
        signs(bench);
        ends(bench);
        manyOfWhatHasNoBound(bench);
        roomOfTells(bench);
        roomOfARule(bench);
        roomOfANot(bench);
        roomOfOpenOnes(bench);
        roomOfTokens(bench);
        firstByItsPlace(bench);
        toldAlready(bench);
        toldAhead(bench);
        deletedAlready(bench);
        typesOfAJoin(bench);
        heldNodes(bench);
        ints(bench);
        numbersAsTold(bench);
        insteadOfAll(bench);
        bench.close();
    }

    /** "THE TEXT, at most 4,000 bytes"; a fault at the text's end is at its length. */
    private static void fourThousandBytes(Bench bench) {
        String whole = "type a" + " ".repeat(3993) + ";";
        bench.due("the length of it", whole.length(), 4000);
        bench.fine(whole);
        bench.fine(" " + whole.substring(0, 3998) + ";");
        bench.fault(" " + whole.substring(0, 3999), SYNTAX, 4000);
        bench.fault(whole.substring(0, 3999), SYNTAX, 3999);
        bench.fault(whole.substring(0, 3999) + "x", SYNTAX, 3999);
        bench.fault(" ".repeat(3999) + "!", SYNTAX, 3999);
        bench.fine(" ".repeat(4000));
        bench.fault("", 0, RewriteDesk.NONE);
        bench.fault("t", SYNTAX, 0);
        bench.fault("type", SYNTAX, 4);
    }

    private static boolean isBlank(int c) {
        return c == 9 || c == 10 || c == 13 || c == 32;
    }

    private static boolean isLetter(int c) {
        return c >= 'a' && c <= 'z';
    }

    private static boolean isDigit(int c) {
        return c >= '0' && c <= '9';
    }

    /** "blanks (9, 10, 13, 32) between or not"; "all else, is no TOKEN": each of the 256 bytes. */
    private static void blanks(Bench bench) {
        for (int c = 0; c < 256; c++) {
            String text = (char) c + "type a;" + (char) c;
            bench.fault(text, isBlank(c) ? 0 : SYNTAX, isBlank(c) ? RewriteDesk.NONE : 0);
            text = "type a; " + (char) c;
            bench.fault(text, isBlank(c) ? 0 : SYNTAX, isBlank(c) ? RewriteDesk.NONE : 8);
        }
        bench.fine("type\tb\n;\ntype\ra of\rb ;");
        bench.fine("\r\n\t type\r\n\t a\r\n\t ;\r\n\t ");
        bench.fine("type a;type b of a;sort s:a->b;rule r node x:a;end proc p do r;end");
    }

    /** "NAMES (a letter a .. z, then letters and digits": each of the 256 bytes ahead of and in one. */
    private static void letters(Bench bench) {
        for (int c = 0; c < 256; c++) {
            if (isLetter(c)) {
                bench.fine("type " + (char) c + ";");
            } else {
                bench.fault("type " + (char) c + ";", SYNTAX, isBlank(c) ? 6 : 5);
            }
            if (isLetter(c) || isDigit(c) || isBlank(c)) {
                bench.fine("type k" + (char) c + ";");
            } else {
                bench.fault("type k" + (char) c + ";", SYNTAX, c == ';' ? 7 : 6);
            }
        }
        // The digits and letters of a name all count.
        bench.fine("type a0; type a1; type a9; type aa; type az; type a;");
        bench.marked("type a2345678; type a2345679; type @a2345678;", TWICE);
        bench.marked("type abcdefgh; type abcdefg; type abcdefgi; type @abcdefgh;", TWICE);
    }

    /** "INTS (1 to 9 digits)": each of the 256 bytes in one. */
    private static void digits(Bench bench) {
        for (int c = 0; c < 256; c++) {
            if (isDigit(c) || isBlank(c)) {
                bench.fine("proc p loop 1" + (char) c + " end end");
            } else {
                bench.fault("proc p loop 1" + (char) c + " end end", SYNTAX, 13);
            }
        }
        bench.fine("proc p loop 0 end loop 000000001 end loop 000000100 end end");
        bench.marked("proc p loop @0000000001 end end", SYNTAX);
        bench.marked("proc p loop @999999999 end end", TYPE);
        bench.marked("proc p loop @1000000000 end end", SYNTAX);
        bench.marked("proc p loop @end end", SYNTAX);
    }

    /** "at most 8", "1 to 9 digits": "A longer NAME or INT" "is no TOKEN", at its first byte. */
    private static void longest(Bench bench) {
        String[] before = {"type ", "type a; type b of ", "type a; sort ", "type a; sort s : ", "rule ", "rule r node ",
            "rule r node x : ", "rule r link ", "rule r not node ", "rule r if ", "rule r del ", "rule r new ",
            "rule r join ", "rule r set ", "rule r set x.0 = ", "proc ", "proc p do ", "proc p all ", "proc p any ",
            "proc p any r, ", "proc p call "};
        for (String start : before) {
            bench.fault(start + "abcdefg8", SYNTAX, start.length() + 8);
            bench.fault(start + "abcdefgh9", SYNTAX, start.length());
            bench.fault(start + "a12345678", SYNTAX, start.length());
        }
        bench.fault("whilewhil", SYNTAX, 0);
        bench.fault("rule r endend", SYNTAX, 7);
        String[] ints = {"rule r if ", "rule r if x.", "rule r if 1 + ", "rule r if 1 < ", "rule r set x.",
            "rule r set x.0 = ", "proc p loop "};
        for (String start : ints) {
            bench.fault(start + "123456789", SYNTAX, start.length() + 9);
            bench.fault(start + "1234567890", SYNTAX, start.length());
            bench.fault(start + "0000000000", SYNTAX, start.length());
        }
        // The longest that can be: a name does not end ahead of its digits, an int ends ahead of a letter.
        bench.fine("type a1; type a; proc p loop 1while end end end");
        bench.marked("type a1; type a @1;", SYNTAX);
        bench.fine("proc p loop 12end end");
        bench.marked("rule r if 1@abcdefgh; end", SYNTAX);
    }

    /** "NAMES ... the words in quotes below are none". */
    private static void words(Bench bench) {
        for (String word : WORDS) {
            bench.fault("type " + word + ";", SYNTAX, 5);
            bench.fault("rule " + word + " end", SYNTAX, 5);
            bench.fault("rule r node " + word + " : a; end", SYNTAX, 12);
            bench.fault("proc p do " + word + "; end", SYNTAX, 10);
            bench.fine("type " + word + "x; type " + word + "0; type x" + word + ";");
            bench.fine("type " + word.substring(0, word.length() - 1) + ";");
        }
        bench.marked("@Type a;", SYNTAX);
        bench.marked("@tYPE a;", SYNTAX);
    }

    /** "SIGNS : ; . , = == != < <= + - * ( ) ->": two that are one have no blank between. */
    private static void signs(Bench bench) {
        String test = "type a; rule r node x : a; if ";
        bench.fine(test + "x.0==x.1;if x.0!=x.1;if x.0<x.1;if x.0<=x.1;end");
        bench.fine(test + "x . 0 == - ( x . 1 + 2 - 3 * 4 ) ; set x . 0 = 1 ; end");
        bench.marked(test + "x.0 @= = 1; end", SYNTAX);
        bench.marked(test + "x.0 @! = 1; end", SYNTAX);
        bench.marked(test + "x.0 < @= 1; end", SYNTAX);
        bench.marked(test + "x.0 ==@= 1; end", SYNTAX);
        bench.marked(test + "x.0 @> 1; end", SYNTAX);
        bench.marked(test + "x.0 @>= 1; end", SYNTAX);
        bench.marked(test + "x.0 <@> 1; end", SYNTAX);
        bench.marked(test + "x.0 @/ 2 < 1; end", SYNTAX);
        bench.marked(test + "x.0 @% 2 < 1; end", SYNTAX);
        bench.marked(test + "x@,0 < 1; end", SYNTAX);
        bench.marked(test + "@[x.0] < 1; end", SYNTAX);
        bench.marked("type a; sort s : a @- > a;", SYNTAX);
        bench.marked("type a; sort s : a @<- a;", SYNTAX);
        bench.marked("type a; sort s : a @--> a;", SYNTAX);
        bench.fine("type a; sort s:a->a; rule r node x:a;link l:x-s->x;del l;join x-s->x;end");
        // A '=' or a '>' makes one sign with these alone.
        for (char sign : ":;.,+-*()".toCharArray()) {
            boolean isBetween = "+-*".indexOf(sign) >= 0;
            String ahead = isBetween ? "x.0 " + sign + "@" : "x.0 @" + sign;
            bench.marked(test + ahead + "= 1; end", SYNTAX);
            bench.marked(test + ahead + "== 1; end", SYNTAX);
        }
        for (char sign : ":;.,=<+*()".toCharArray()) {
            bench.marked("type a; sort s : a @" + sign + "> a;", SYNTAX);
            bench.marked("type a; sort s : a @" + sign + "-> a;", SYNTAX);
        }
        // "->" is one sign, where two would do as well: a '-' and a '>'.
        bench.marked("type a; sort s:a->a; rule r node x:a; link l:x@->s->x; end", SYNTAX);
    }

    /** "the text's end: its length": a text that is cut off behind each of its tokens, or goes on with none. */
    private static void ends(Bench bench) {
        String text = "type a ; | type b of a ; | sort s : a -> b ; | rule r node x : a ; merge ; link l : x - s -> x ; "
            + "not node n : a ; link m : n - s -> x ; end not end if - x . 0 + ( 1 * x . 1 ) < 2 - 3 ; if 1 == 1 ; "
            + "del l ; new z : b ; join x - s -> z ; set x . 0 = ( - 1 ) * 2 ; end | rule q end | "
            + "proc p do r ; all r ; any r , q ; call p ; fail ; while do r ; end loop 2 end "
            + "try do r ; then do q ; else fail ; end end |";
        StringBuilder cut = new StringBuilder();
        boolean isWhole = true;
        for (String token : text.split(" ")) {
            if (token.equals("|")) {
                isWhole = true;
                continue;
            }
            if (!isWhole) {
                bench.fault(cut.toString(), SYNTAX, cut.length());
                bench.fault(cut + " \n", SYNTAX, cut.length() + 2);
            }
            bench.fault(cut + " ?", SYNTAX, cut.length() + 1);
            cut.append(cut.length() == 0 ? "" : " ").append(token);
            isWhole = false;
        }
        bench.fine(cut.toString());
    }

    /** What no sentence bounds: merges, alternatives, a row's dos, and units. */
    private static void manyOfWhatHasNoBound(Bench bench) {
        bench.fine("rule r " + "merge;".repeat(598) + "end");
        bench.fine("rule r end proc p any r" + ",r".repeat(595) + ";end");
        bench.fine("rule r end proc p " + "do r;".repeat(398) + "end");
        bench.fine("rule r if 1" + "+1".repeat(590) + "<1; end");
        bench.fine("rule r if 1" + "*1".repeat(590) + "<1; end");
    }

    /** Tells of one kind, with the names n0, n1 and so on behind what they begin with. */
    private static String all(String before, int count, String after) {
        StringBuilder text = new StringBuilder();
        for (int i = 0; i < count; i++) {
            text.append(before).append('n').append(i).append(after);
        }
        return text.toString();
    }

    /** "a 13th TYPE, 13th SORT, 21st RULE, 11th PROC" "(each at its NAME)". */
    private static void roomOfTells(Bench bench) {
        String most = all("type t", 12, "; ") + all("sort s", 12, " : tn0 -> tn11; ") + all("rule r", 20, " end ")
            + all("proc p", 10, " end ");
        bench.fine(most);
        bench.marked(most + "type @x;", ROOM);
        bench.marked(most + "sort @x : tn0 -> tn0;", ROOM);
        bench.marked(most + "rule @x end", ROOM);
        bench.marked(most + "proc @x end", ROOM);
        bench.fault(most + "type", SYNTAX, most.length() + 4);
        bench.fault(most + "type 1", SYNTAX, most.length() + 5);
        bench.fault(most + "sort ;", SYNTAX, most.length() + 5);
        bench.fault(most + "rule end", SYNTAX, most.length() + 5);
        bench.fault(most + "proc A", SYNTAX, most.length() + 5);
        // The one too many is the fault, also if its name is one that is told already, or its elder none.
        bench.marked(most + "type @tn3;", ROOM);
        bench.marked(most + "rule @rn3 end", ROOM);
        bench.marked(most + "type @x of y;", ROOM);
    }

    /** "in a RULE a 5th node, 7th link, 3rd NOT, ... in a RULE a 5th TEST, 9th DOES". */
    private static void roomOfARule(Bench bench) {
        String rule = "type a; sort s : a -> a; rule r ";
        String nodes = all("node x", 4, " : a; ");
        String links = all("link l", 6, " : xn0 - s -> xn3; ");
        String nots = "not node n : a; end not node n : a; end ";
        String tests = "if 1 < 2; if 1 < 2; if 1 < 2; if 1 < 2; ";
        String does = "del ln5; del ln4; new z : a; join z - s -> z; set z.0 = 1; set z.1 = 1; set z.0 = 2; join z - s -> z; ";
        bench.fine(rule + nodes + links + nots + tests + does + "end");
        bench.marked(rule + nodes + links + "node @x : a; " + nots + "end", ROOM);
        bench.marked(rule + nodes + links + "link @l : xn0 - s -> xn0; " + nots + "end", ROOM);
        bench.marked(rule + nodes + links + nots + "@not end end", ROOM);
        bench.marked(rule + nodes + links + nots + tests + "@if 1 < 2; end", ROOM);
        String[] more = {"@del ln0; end", "@new w : a; end", "@join z - s -> z; end", "@set z.0 = 1; end", "@del"};
        for (String one : more) {
            bench.marked(rule + nodes + links + nots + tests + does + one, ROOM);
        }
        bench.marked(rule + nodes + links + nots + tests + does + "@if", SYNTAX);
        bench.marked(rule + nodes + "node @: a; end", SYNTAX);
        bench.marked(rule + nodes + links + "link @node : xn0 - s -> xn0; end", SYNTAX);
        // Each rule counts anew, and a NOT's are none of the rule's.
        bench.fine(rule + nodes + links + nots + tests + does + "end rule q " + nodes + links + nots + tests + does + "end");
        bench.fine(rule + nodes + "not node n : a; end end");
        bench.fine(rule + nodes + links + "not " + all("link m", 3, " : xn0 - s -> xn0; ") + "end end");
    }

    /** "in a NOT a 2nd node, 4th link". */
    private static void roomOfANot(Bench bench) {
        String rule = "type a; sort s : a -> a; rule r node x : a; ";
        String links = all("link m", 3, " : x - s -> x; ");
        bench.fine(rule + "not node n : a; " + links + "end not " + links + "node n : a; end end");
        bench.marked(rule + "not node n : a; node @o : a; end end", ROOM);
        bench.marked(rule + "not node n : a; " + links + "node @o : a; end end", ROOM);
        bench.marked(rule + "not end not node n : a; node @o : a; end end", ROOM);
        bench.marked(rule + "not " + links + "link @l : x - s -> x; end end", ROOM);
        bench.marked(rule + "not " + links + "end not " + links + "link @l : x - s -> x; end end", ROOM);
        bench.marked(rule + "not node @end end", SYNTAX);
    }

    /** "a 9th that is open of while, loop, try, ( (at it)". */
    private static void roomOfOpenOnes(Bench bench) {
        String eight = "while loop 1 try then try then else while loop 1 try try ";
        String close = "then else end then else end end end end else end end end ";
        bench.fine("proc p " + eight + close + "end");
        for (String one : new String[] {"while end ", "loop 1 end ", "try then else end "}) {
            bench.marked("proc p " + eight + "@" + one, ROOM);
            bench.fine("proc p " + eight + close + one + eight + close + "end");
            // Behind one that is closed there is room again.
            bench.fine("proc p " + eight + "then else end " + one + one + close.substring(14) + "end");
        }
        bench.marked("proc p " + "try then else ".repeat(8) + "@while", ROOM);
        bench.marked("proc p " + "try then ".repeat(8) + "@try", ROOM);
        bench.marked("proc p " + "try then ".repeat(8) + "else @loop 1", ROOM);
        bench.marked("proc p " + "try then ".repeat(8) + "@while", ROOM);
        bench.fine("proc p " + "while ".repeat(8) + "fail; " + "end ".repeat(8) + "end proc q " + "while ".repeat(8) + "end ".repeat(9));

        String open = "(".repeat(8);
        String closed = ")".repeat(8);
        for (String start : new String[] {"rule r if ", "rule r if 1 < ", "type a; rule r node x : a; set x.0 = "}) {
            boolean isLeft = start.endsWith("if ");
            String end = (isLeft ? " < 1" : "") + "; end";
            bench.fine(start + open + "1" + closed + "+" + open + "2" + closed + "*" + open + "3" + closed + end);
            bench.marked(start + open + "@(1)" + closed + end, ROOM);
            bench.marked(start + "1 + 2 * " + open + "1 - @(1)" + closed + end, ROOM);
            bench.marked(start + open + "1) * (1) * (@(2", ROOM);
            bench.marked(start + "-(".repeat(8) + "-@(1)" + closed + end, ROOM);
            bench.fine(start + "(1)*".repeat(9) + "1" + end);
        }
    }

    /** "a 1,201st TOKEN". */
    private static void roomOfTokens(Bench bench) {
        // Of three, two, 1,194 and one tokens.
        String whole = "type a; rule r " + "merge;".repeat(597) + "end";
        bench.fine(whole);
        bench.fine(whole + "\n");
        String[] next = {"type", "sort", "rule", "proc"};
        for (String one : next) {
            bench.fault(whole + " " + one, ROOM, whole.length() + 1);
            bench.fault(whole + " " + one + " a;", ROOM, whole.length() + 1);
        }
        // With which no text goes on: of one place the least fault.
        bench.fault(whole + " end", SYNTAX, whole.length() + 1);
        bench.fault(whole + " x", SYNTAX, whole.length() + 1);
        bench.fault(whole + " abcdefghi", SYNTAX, whole.length() + 1);
        bench.fault(whole + "?", SYNTAX, whole.length());
        // Names count only in a text that has no fault of these; tokens behind the 1,201st do not.
        bench.fault("type a of b; rule r " + "merge;".repeat(596) + "end", NAME, 10);
        bench.fault("type a of b; rule r " + "merge;".repeat(597) + "end", ROOM, 20 + 596 * 6 + 5);
        bench.fault("type a; rule r " + "merge;".repeat(598) + "end ?", ROOM, 15 + 597 * 6 + 5);
    }

    /** "the first by its place"; "If there is none, likewise". */
    private static void firstByItsPlace(Bench bench) {
        String full = all("type t", 12, "; ");
        bench.marked(full + "type @x; ;", ROOM);
        bench.marked(full + "@; type x;", SYNTAX);
        bench.marked("type a; type a of x; rule r node x : y; del y; end proc p loop 101 end end @;", SYNTAX);
        bench.marked("type a; type a of x; " + full.replace("tn10", "@tn10"), ROOM);
        bench.marked("type a; type @a of x; proc p loop 101 end end", TWICE);
        bench.marked("type a of @x; type a; proc p loop 101 end end", NAME);
        bench.marked("proc p loop @101 end do x; end proc p end", TYPE);
        bench.marked(HEAD + "rule r node x : a; join x - @t -> z; end", TYPE);
        bench.marked(HEAD + "rule r node x : a; join @z - t -> x; end", NAME);
        bench.marked(HEAD + "rule r node x : a; join x - @z -> z; end", NAME);
        bench.marked(HEAD + "rule r node x : a; set x.@2 = z.0; end", TYPE);
        bench.marked(HEAD + "rule r node x : a; set x.1 = @z.2; end", NAME);
        bench.marked(HEAD + "rule r node x : a; set x.1 = x.@2 + z.0; end", TYPE);
        bench.marked(HEAD + "rule r node x : a; node @x : z; end", TWICE);
        bench.marked(HEAD + "rule r new x : @z; new x : z; end", NAME);
        bench.marked(HEAD + "rule r link l : @x - y -> z; end", NAME);
        bench.marked(HEAD + "rule r node x : a; link l : x - @y -> z; end", NAME);
        bench.marked(HEAD + "rule r node x : a; link l : x - s -> @z; end", NAME);
        bench.marked(HEAD + "sort u : @x -> y; ", NAME);
        bench.marked(HEAD + "sort @s : x -> y; ", TWICE);
    }

    /** "TWICE: a NAME that is told already (TYPES; SORTS; RULES and PROCS together; in a RULE all ...)". */
    private static void toldAlready(Bench bench) {
        String most = all("type ", 11, "; ");
        bench.marked(most + "type @n0;", TWICE);
        bench.marked(most + "type @n10;", TWICE);
        bench.marked("type t; " + all("sort ", 11, " : t -> t; ") + "sort @n0 : t -> t;", TWICE);
        bench.marked("type t; " + all("sort ", 11, " : t -> t; ") + "sort @n10 : t -> t;", TWICE);
        String rules = all("rule ", 19, " end ");
        String procs = all("proc p", 9, " end ");
        for (String name : new String[] {"n0", "n18", "pn0", "pn8"}) {
            bench.marked(rules + procs + "rule @" + name + " end", TWICE);
            bench.marked(rules + procs + "proc @" + name + " end", TWICE);
            bench.marked(procs + rules + "rule @" + name + " end", TWICE);
        }
        bench.fine(rules + procs + "rule x end proc y end");
        String rule = "type a; sort s : a -> a; rule r " + all("node x", 4, " : a; ") + all("link l", 6, " : xn0 - s -> xn3; ");
        for (String name : new String[] {"xn0", "xn3", "ln0", "ln5"}) {
            bench.marked(rule + "not node @" + name + " : a; end end", TWICE);
            bench.marked(rule + "not end not link @" + name + " : xn0 - s -> xn0; end end", TWICE);
            bench.marked(rule + "new @" + name + " : a; end", TWICE);
        }
        // A NOT's are told in it alone, and what is told behind it may have their names.
        bench.fine(rule + "not node n : a; link m : n - s -> n; end not node n : a; link m : n - s -> n; end new n : a; new m : a; end");
        bench.marked(rule + "not link m : xn0 - s -> xn0; link @m : xn0 - s -> xn0; end end", TWICE);
        bench.marked(rule + "not link m : xn0 - s -> xn0; node @m : a; end end", TWICE);
        bench.marked(rule + all("new k", 7, " : a; ") + "new @kn0 : a; end", TWICE);
        bench.marked(rule + all("new k", 7, " : a; ") + "new @kn6 : a; end", TWICE);
        bench.fine("type r; sort r : r -> r; rule r node r : r; end proc s end");
        bench.fine("type a; rule r new r : a; end");
    }

    /** "All must be told ahead, but RULES and PROCS in PROCS (which may be told anywhere)". */
    private static void toldAhead(Bench bench) {
        bench.fine("type a; type b of a;");
        bench.marked("type b of @a; type a;", NAME);
        bench.fine("type a; sort s : a -> a;");
        bench.marked("sort s : @a -> a; type a;", NAME);
        bench.marked("type a; sort s : a -> @b; type b;", NAME);
        bench.marked("rule r node x : @a; end type a;", NAME);
        bench.marked("rule r new x : @a; end type a;", NAME);
        bench.marked("rule r not node x : @a; end end type a;", NAME);
        bench.marked("type a; rule r node x : a; link l : x - @s -> x; end sort s : a -> a;", NAME);
        bench.marked("type a; rule r node x : a; not link l : x - @s -> x; end end sort s : a -> a;", NAME);
        bench.marked("type a; rule r node x : a; join x - @s -> x; end sort s : a -> a;", NAME);
        bench.marked(HEAD + "rule r node x : a; link l : x - s -> @y; node y : a; end", NAME);
        bench.marked(HEAD + "rule r node x : a; not link l : x - s -> @n; node n : a; end end", NAME);
        bench.marked(HEAD + "rule r node x : a; set @z.0 = 1; new z : a; end", NAME);
        bench.marked(HEAD + "rule r node x : a; end rule q del @x; end", NAME);
        bench.marked(HEAD + "rule r node x : a; not node n : a; end not link l : @n - s -> x; end end", NAME);
        bench.marked(HEAD + "rule r node x : a; not node n : a; end del @n; end", NAME);
        bench.marked(HEAD + "rule r node x : a; not node n : a; end join x - s -> @n; end", NAME);
        bench.marked(HEAD + "rule r node x : a; not node n : a; end set @n.0 = 1; end", NAME);
        // What a name is must be right too: not a type, a sort, or one of the other kind.
        bench.marked(HEAD + "rule r node x : @s; end", NAME);
        bench.marked(HEAD + "rule r node x : a; link l : x - @a -> x; end", NAME);
        bench.marked(HEAD + "rule r node x : a; link l : x - s -> @a; end", NAME);
        bench.marked(TWO + "link m : @l - s -> x; end", NAME);
        bench.marked(TWO + "not link m : @l - s -> x; end end", NAME);
        bench.marked("type a; sort s : a -> a; sort t : @s -> a;", NAME);
        for (String kind : new String[] {"do", "all", "any"}) {
            bench.fine("proc p " + kind + " r; end rule r end");
            bench.fine("rule r end proc p " + kind + " r; end");
            bench.marked("rule r end proc p " + kind + " @p; end", NAME);
            bench.marked("rule r end proc p " + kind + " @q; end", NAME);
        }
        bench.marked("proc p any r, r, @p; end rule r end", NAME);
        bench.fine("proc p call q; call p; end proc q call p; end");
        bench.marked("proc p call @r; end rule r end", NAME);
        bench.marked("proc p try then else while loop 1 call @q; end end end end", NAME);
        bench.marked("proc p try then do @q; else end end", NAME);
        String rules = all("rule ", 20, " end ");
        bench.fine("proc p do n0; all n19; any n0, n19; call q; end " + rules + "proc q end");
        bench.marked("proc p do @n20; end " + rules, NAME);
    }

    /** "not deleted yet": of del, join, set and E. */
    private static void deletedAlready(Bench bench) {
        String gone = TWO + "del l; del x; ";
        bench.fine(TWO + "set x.0 = x.1; join x - s -> x; del l; end");
        bench.marked(gone + "del @x; end", NAME);
        bench.marked(gone + "del @l; end", NAME);
        bench.marked(gone + "join @x - s -> y; end", NAME);
        bench.marked(gone + "join y - s -> @x; end", NAME);
        bench.marked(gone + "set @x.0 = 1; end", NAME);
        bench.marked(gone + "set y.0 = 1 + @x.0; end", NAME);
        bench.fine(gone + "set y.0 = 1 + y.0; join y - s -> y; end");
        bench.fine(TWO + "if x.0 == 1; del l; set x.0 = y.1; del x; set y.0 = 1; end");
        bench.marked(gone + "new @x : a; end", TWICE);
        // A new one can't be deleted, nor stand in an E.
        bench.marked(TWO + "new z : a; del @z; end", NAME);
        bench.marked(TWO + "new z : a; set z.0 = @z.1; end", NAME);
        bench.fine(TWO + "new z : a; set z.0 = y.1; join z - s -> z; end");
    }

    /** "at the SORT of a join: the TYPES told ... are not of the SORT's (of each that is known, by itself)". */
    private static void typesOfAJoin(Bench bench) {
        String types = "type a; type b of a; type c of b; type d of a; sort s : b -> d; rule r node a : a; node b : b; node c : c; node d : d; ";
        boolean[] leadsFrom = {false, true, true, false};
        boolean[] leadsTo = {false, false, false, true};
        for (int i = 0; i < 4; i++) {
            char from = "abcd".charAt(i);
            for (int k = 0; k < 4; k++) {
                String to = " -> " + "abcd".charAt(k) + "; end";
                join(bench, types + "join " + from + " - @s" + to, leadsFrom[i] && leadsTo[k]);
            }
            // Of one that is not known the other one counts alone, and where that fits, its name.
            String unknown = leadsFrom[i] ? " - s -> @z; end" : " - @s -> z; end";
            bench.marked(types + "join " + from + unknown, leadsFrom[i] ? NAME : TYPE);
            join(bench, types + "new z : " + from + "; join z - @s -> d; end", leadsFrom[i]);
            join(bench, types + "new z : " + from + "; join b - @s -> z; end", leadsTo[i]);
        }
    }

    private static void join(Bench bench, String marked, boolean isFine) {
        if (isFine) {
            bench.fine(marked.replace("@", ""));
        } else {
            bench.marked(marked, TYPE);
        }
    }

    /** "at the NAME of a del: a node that a link of the RULE, not deleted yet, or a join ahead of it, leads from or to". */
    private static void heldNodes(Bench bench) {
        String rule = HEAD + "rule r node x : a; node y : a; node z : a; link l : x - s -> y; ";
        bench.marked(rule + "del @x; end", TYPE);
        bench.marked(rule + "del @y; end", TYPE);
        bench.fine(rule + "del z; end");
        bench.fine(rule + "del l; del x; del y; del z; end");
        bench.marked(rule + "link m : y - s -> x; del l; del @x; end", TYPE);
        bench.marked(rule + "link m : y - s -> x; del m; del @y; end", TYPE);
        bench.fine(rule + "link m : y - s -> x; del m; del l; del y; del x; end");
        bench.fine(rule + "link m : y - s -> z; del l; del x; end");
        bench.marked(rule + "link m : z - s -> z; del @z; end", TYPE);
        bench.fine(rule + "link m : z - s -> z; del m; del z; end");
        // A join holds both its ends, however often it is told; one that stands behind the del does not.
        bench.marked(rule + "join z - s -> x; del @z; end", TYPE);
        bench.marked(rule + "join x - s -> z; del @z; end", TYPE);
        bench.marked(rule + "join z - s -> z; del @z; end", TYPE);
        bench.marked(rule + "join z - s -> x; join z - s -> x; del @z; end", TYPE);
        bench.marked(rule + "join x - s -> z; join x - s -> z; del @z; end", TYPE);
        bench.marked(rule + "del l; join x - s -> z; join z - s -> x; del @x; end", TYPE);
        bench.marked(rule + "new w : a; join w - s -> z; del @z; end", TYPE);
        bench.fine(rule + "new w : a; join w - s -> w; join x - s -> x; del z; end");
        bench.fine(rule + "del z; join x - s -> y; end");
        // Neither a NOT's links nor a set hold a node.
        bench.fine(rule + "not link m : z - s -> x; end set z.0 = 1; del z; end");
        bench.fine(HEAD + "rule q node z : a; join z - s -> z; end rule r node z : a; del z; end");
        bench.fine(rule + "end rule q node x : a; node y : a; del x; del y; end");
        bench.fine(rule + "node w : a; end rule q node x : a; node y : a; node z : a; del x; del y; del z; end");
    }

    /** "at an INT: not 0, 1 behind a '.', above 100 behind loop". */
    private static void ints(Bench bench) {
        String rule = HEAD + "rule r node x : a; ";
        for (String number : new String[] {"0", "1", "00", "01", "000000001"}) {
            bench.fine(rule + "if x." + number + " < (x." + number + "); set x." + number + " = x." + number + "; end");
        }
        for (String number : new String[] {"2", "3", "10", "11", "100", "000000002", "999999999"}) {
            bench.marked(rule + "if x.@" + number + " < 1; end", TYPE);
            bench.marked(rule + "if 1 < 1 * (x.@" + number + "); end", TYPE);
            bench.marked(rule + "set x.@" + number + " = 1; end", TYPE);
            bench.marked(rule + "set x.0 = -x.@" + number + "; end", TYPE);
        }
        for (String number : new String[] {"0", "1", "99", "100", "000000100"}) {
            bench.fine("proc p loop " + number + " end end");
        }
        for (String number : new String[] {"101", "200", "1000", "000000101", "999999999"}) {
            bench.marked("proc p loop @" + number + " end end", TYPE);
            bench.marked("proc p while try then loop @" + number + " end else end end end", TYPE);
        }
        // Other ints have no bound but their digits.
        bench.fine(rule + "if 101 < 999999999; set x.0 = 999999999; end");
    }

    /** "the text's TYPES, SORTS, RULES, PROCS (numbered from 0 on as they are told)", mixed as they may be. */
    private static void numbersAsTold(Bench bench) {
        RewriteDesk desk = bench.desk("proc two call one; do none; end type z; rule none end sort y : z -> z; type a of z; "
            + "proc one do make; end sort x : a -> z; rule make new n : a; join n - x -> n; end type b; rule more new n : b; end");
        int[] due = {0, 0, 3, 2, 3, 2};
        for (int what = 0; what < due.length; what++) {
            bench.due("count(" + what + ")", desk.count(what), due[what]);
        }
        bench.due("apply(0)", desk.apply(0), 1);
        bench.due("makes nothing", desk.count(0), 0);
        bench.due("apply(1)", desk.apply(1), 1);
        bench.due("makes a node of type 1", desk.nodeOf(0, 0), 1);
        bench.due("and a link of sort 1", desk.linkOf(0, 0), 1);
        bench.due("apply(2)", desk.apply(2), 1);
        bench.due("makes a node of type 2", desk.nodeOf(1, 0), 2);
        bench.due("apply(3)", desk.apply(3), RewriteDesk.NONE);
        desk.begin(0);
        bench.due("the first proc has three steps", desk.run(2) * 10 + desk.run(1), 1);
        desk.begin(1);
        bench.due("the second one has one", desk.run(1), 1);
        bench.due("begin(2)", desk.begin(2), false);
        bench.due("node(2)", desk.node(2), 4);
        bench.due("node(3)", desk.node(3), RewriteDesk.NONE);
        bench.due("link(1, 0, 1) to another type", desk.link(1, 0, 1), RewriteDesk.NONE);
        bench.due("link(2, 0, 0)", desk.link(2, 0, 0), RewriteDesk.NONE);
    }

    /** "are there instead of all": of a text with much of each nothing is left in one with little. */
    private static void insteadOfAll(Bench bench) {
        String many = all("type t", 12, "; ") + all("sort s", 12, " : tn0 -> tn0; ") + all("proc p", 10, " do rn0; end ")
            + all("rule r", 19, " end ") + "rule last node x : tn0; node y : tn0; link l : x - sn0 -> y; end ";
        String much = "type a; sort s : a -> a; rule r node x : a; node y : a; " + all("new k", 8, " : a; ") + "end "
            + "rule q node x : a; node y : a; merge; " + all("link l", 6, " : x - s -> y; ") + "end proc p do r; do q; fail; end ";
        String little = "type b; sort t : b -> b; rule r new n : b; end rule q node x : b; join x - t -> x; end proc p do r; end ";
        // Right behind a larger one, and behind one ahead of that: a desk may hold more than one.
        String[][] rows = {{many, much, little, little}, {many, little, much, much, little}};
        for (String[] row : rows) {
            RewriteDesk desk = new RewriteDesk();
            for (String text : row) {
                Bench.type(desk, text);
                bench.due("read() of " + text, desk.read(), 0);
                if (text.equals(little)) {
                    little(bench, desk);
                }
            }
        }
    }

    private static void little(Bench bench, RewriteDesk desk) {
        for (int k : new int[] {1, 2, 11, 12}) {
            bench.due("node(" + k + ")", desk.node(k), RewriteDesk.NONE);
            bench.due("matches(" + (k + 1) + ")", desk.matches(k + 1), RewriteDesk.NONE);
            bench.due("begin(" + k + ")", desk.begin(k), false);
        }
        for (int i = 0; i < 12; i++) {
            bench.due("node " + i + " by a rule", desk.apply(0), 1);
        }
        bench.due("a 13th node", desk.apply(0), -3);
        for (int k : new int[] {1, 2, 11, 12}) {
            bench.due("link(" + k + ", 0, 0)", desk.link(k, 0, 0), RewriteDesk.NONE);
        }
        for (int i = 0; i < 39; i++) {
            desk.link(0, 0, 0);
        }
        bench.due("a 40th link by a rule", desk.apply(1), 1);
        bench.due("a 41st link", desk.apply(1), -3);
        bench.due("remove(11)", desk.remove(11), true);
        bench.due("begin(0)", desk.begin(0), true);
        bench.due("one step", desk.run(1), 1);
        bench.due("twelve nodes", desk.count(0), 12);
    }
}
