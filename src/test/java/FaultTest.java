/** Promises 4 and 5: read and place, with the faults 1 to 5. */
public final class FaultTest {
    private static final int SYNTAX = 1;
    private static final int ROOM = 2;
    private static final int TWICE = 3;
    private static final int NAME = 4;
    private static final int TYPE = 5;

    private static final String HEAD = "type a; type b of a; type c; sort s : a -> a; sort t : b -> c; ";
    private static final String TWO = HEAD + "rule r node x : a; node y : b; link l : x - s -> y; ";

    public static void main(String[] args) {
        Bench bench = new Bench("FaultTest");
        texts(bench);
        tokens(bench);
        syntax(bench);
        sums(bench);
        roomOfTells(bench);
        roomOfRules(bench);
        roomOfNests(bench);
        roomOfTokens(bench);
        twice(bench);
        names(bench);
        namesInRules(bench);
        types(bench);
        order(bench);
        fullRule(bench);
        whatStays(bench);
        textAfterText(bench);
        bench.close();
    }

    private static void texts(Bench bench) {
        bench.fine("");
        bench.fine(" \t\n\r ");
        bench.fine(HEAD);
        bench.fine("rule r end proc p end");
        bench.fine("rule r merge; merge; end");
        bench.fine("type a;sort s:a->a;rule r node x:a;link l:x-s->x;if-x.0<=(x.1)*2;del l;set x.0=-(x.1-1);end");
        bench.fine(TWO + "not end not node n : c; link m : y - t -> n; link k : x - s -> y; end "
            + "if x.0 == 1; if x.0 != 1; if x.0 < 1; if 1 <= y.1; "
            + "del l; new z : b; join x - s -> z; set z.1 = x.0 * (y.0 - 3); set x.0 = 1; del y; end");
        bench.fine("proc p do r; all r; any r; any r, q, r; call p; fail; while end loop 0 end loop 100 do r; end "
            + "try then else end try do r; then call q2; else fail; end end rule r end rule q end proc q2 end");
    }

    private static void tokens(Bench bench) {
        bench.fine("type abcdefgh; type a2345678; type ends; type o;");
        bench.marked("type @abcdefghi;", SYNTAX);
        bench.marked("type @a23456789;", SYNTAX);
        bench.marked("type a of @type;", SYNTAX);
        bench.marked("type @end;", SYNTAX);
        bench.marked("type @A;", SYNTAX);
        bench.marked("type a@B;", SYNTAX);
        bench.marked("type a@_b;", SYNTAX);
        bench.marked("type @2a;", SYNTAX);
        bench.marked("type a@\f;", SYNTAX);
        bench.marked("type a;@\u00e9", SYNTAX);
        bench.marked("@!", SYNTAX);
        String test = "type a; rule r node x : a; if ";
        bench.fine(test + "x.0==999999999;end");
        bench.fine(test + "x.0!=000000000;end");
        bench.marked(test + "x.0 == @1234567890; end", SYNTAX);
        bench.marked(test + "x.0 @= 1; end", SYNTAX);
        bench.marked(test + "x.0 @! = 1; end", SYNTAX);
        bench.marked(test + "x.0 < @= 1; end", SYNTAX);
        bench.marked(test + "x.0 ==@= 1; end", SYNTAX);
        bench.marked(test + "x.0@-> 1; end", SYNTAX);
        bench.fine(test + "x.0<-1;end");
        bench.marked("type a; sort s : a @- > a;", SYNTAX);
    }

    private static void syntax(Bench bench) {
        bench.marked("@a", SYNTAX);
        bench.marked("type@", SYNTAX);
        bench.marked("type a@", SYNTAX);
        bench.marked("type a \n @", SYNTAX);
        bench.marked("type a of@;", SYNTAX);
        bench.marked("type a of b @c;", SYNTAX);
        bench.marked("type a;@;", SYNTAX);
        bench.marked("sort s @a -> a;", SYNTAX);
        bench.marked("sort s : a -> a@", SYNTAX);
        bench.marked("rule r node x : a @end", SYNTAX);
        bench.marked("rule r not @merge; end end", SYNTAX);
        bench.marked("rule r not end @node x : a; end", SYNTAX);
        bench.marked("rule r not @not end end end", SYNTAX);
        bench.marked("rule r not @if 1 == 1; end end", SYNTAX);
        bench.marked("rule r if 1 == 1; @not end end", SYNTAX);
        bench.marked("rule r del x; @if 1 == 1; end", SYNTAX);
        bench.marked("rule r del x; @link l : x - s -> y; end", SYNTAX);
        bench.marked("rule r link l : x - s @- > y; end", SYNTAX);
        bench.marked("rule r join x - s@- y; end", SYNTAX);
        bench.marked("rule r set x@= 1; end", SYNTAX);
        bench.marked("rule r set x.@y = 1; end", SYNTAX);
        bench.marked("rule r set x.0 @== 1; end", SYNTAX);
        bench.marked("rule r if 1@; end", SYNTAX);
        bench.marked("rule r del x @, y; end", SYNTAX);
        bench.marked("rule r @do r; end", SYNTAX);
        bench.marked("proc p @node x : a; end", SYNTAX);
        bench.marked("proc p do r @, q; end", SYNTAX);
        bench.marked("proc p any r,@; end", SYNTAX);
        bench.marked("proc p fail @x; end", SYNTAX);
        bench.marked("proc p loop @end end", SYNTAX);
        bench.marked("proc p try @end end", SYNTAX);
        bench.marked("proc p try then @end end", SYNTAX);
        bench.marked("proc p try then else @then end end", SYNTAX);
        bench.marked("proc p while @else end end", SYNTAX);
        bench.marked("proc p while end @", SYNTAX);
        bench.marked("proc p end @end", SYNTAX);
    }

    private static void sums(Bench bench) {
        String test = "type a; rule r node x : a; if ";
        bench.fine(test + "-(-1 + (-x.0)) * 2 - 3 < ((x.1)); end");
        bench.marked(test + "1 + @-1 < 2; end", SYNTAX);
        bench.marked(test + "1 * @-1 < 2; end", SYNTAX);
        bench.marked(test + "-@-1 < 2; end", SYNTAX);
        bench.marked(test + "(@) < 2; end", SYNTAX);
        bench.marked(test + "(1 @< 2; end", SYNTAX);
        bench.marked(test + "1@) < 2; end", SYNTAX);
        bench.marked(test + "x @< 2; end", SYNTAX);
        bench.marked(test + "1 @. 0 < 2; end", SYNTAX);
        bench.marked(test + "1 @2 < 2; end", SYNTAX);
        bench.marked(test + "1 < 2 @< 3; end", SYNTAX);
        bench.marked(test + "1 < 2 +@; end", SYNTAX);
    }

    /** Tells of one kind, up to the one too many, which has the mark at its name. */
    private static String many(String before, int count, String after) {
        StringBuilder text = new StringBuilder();
        for (int i = 0; i < count; i++) {
            text.append(before).append(i == count - 1 ? "@" : "").append('n').append(i).append(after);
        }
        return text.toString();
    }

    private static void roomOfTells(Bench bench) {
        String types = "type a; ";
        bench.fine(many("type ", 12, "; ").replace("@", ""));
        bench.marked(many("type ", 13, "; "), ROOM);
        bench.fine(types + many("sort ", 12, " : a -> a; ").replace("@", ""));
        bench.marked(types + many("sort ", 13, " : a -> a; "), ROOM);
        bench.fine(many("rule ", 20, " end ").replace("@", ""));
        bench.marked(many("rule ", 21, " end "), ROOM);
        bench.fine(many("proc ", 10, " end ").replace("@", ""));
        bench.marked(many("proc ", 11, " end "), ROOM);
        bench.marked(many("type ", 12, "; ").replace("@", "") + "type @;", SYNTAX);
        bench.marked(many("type ", 12, "; ").replace("@", "") + "type @end;", SYNTAX);
    }

    private static void roomOfRules(Bench bench) {
        String rule = "type a; sort s : a -> a; rule r ";
        String node = rule + "node x : a; ";
        bench.fine(rule + many("node ", 4, " : a; ").replace("@", "") + "end");
        bench.marked(rule + many("node ", 5, " : a; ") + "end", ROOM);
        bench.fine(node + many("link ", 6, " : x - s -> x; ").replace("@", "") + "end");
        bench.marked(node + many("link ", 7, " : x - s -> x; ") + "end", ROOM);
        bench.fine(rule + "not end not end end");
        bench.marked(rule + "not end not end @not end end", ROOM);
        bench.marked(node + "not node n : a; node @m : a; end end", ROOM);
        bench.fine(node + "not " + many("link ", 3, " : x - s -> x; ").replace("@", "") + "node n : a; end end");
        bench.marked(node + "not " + many("link ", 4, " : x - s -> x; ") + "end end", ROOM);
        String test = "if 1 < 2; ";
        bench.fine(rule + test.repeat(4) + "end");
        bench.marked(rule + test.repeat(4) + "@if 1 < 2; end", ROOM);
        String set = "set x.0 = 1; ";
        bench.fine(node + set.repeat(8) + "end");
        bench.marked(node + set.repeat(8) + "@set x.0 = 1; end", ROOM);
        bench.marked(node + set.repeat(8) + "@new y : a; end", ROOM);
        bench.marked(node + set.repeat(8) + "@join x - s -> x; end", ROOM);
        bench.marked(node + set.repeat(8) + "@del x; end", ROOM);
        // Each rule and each NOT counts anew.
        String full = many("node ", 4, " : a; ").replace("@", "") + test.repeat(4);
        bench.fine(rule + full + "end rule q " + full + "end");
    }

    private static void roomOfNests(Bench bench) {
        String rule = "type a; rule r node x : a; ";
        bench.fine(rule + "if " + "(".repeat(8) + "1" + ")".repeat(8) + " < " + "(".repeat(8) + "1" + ")".repeat(8) + "; end");
        bench.marked(rule + "if " + "(".repeat(8) + "@(1" + ")".repeat(9) + " < 1; end", ROOM);
        bench.marked(rule + "set x.0 = " + "-(".repeat(8) + "-@(1" + ")".repeat(9) + "; end", ROOM);
        bench.fine(rule + "set x.0 = " + "(1) + ".repeat(20) + "1; end");
        bench.fine("proc p " + "while ".repeat(8) + "end ".repeat(8) + "while end end");
        bench.marked("proc p " + "while ".repeat(8) + "@while " + "end ".repeat(10), ROOM);
        bench.marked("proc p " + "loop 1 ".repeat(8) + "@loop 1 " + "end ".repeat(10), ROOM);
        bench.marked("proc p " + "try ".repeat(8) + "@try ", ROOM);
        bench.fine("proc p " + "try then else ".repeat(8) + "end ".repeat(9));
        bench.marked("proc p while loop 1 try then " + "while ".repeat(5) + "@try ", ROOM);
        bench.fine("proc p " + "while end ".repeat(30) + "end");
    }

    private static void roomOfTokens(Bench bench) {
        // Each "fail;" is two tokens: these are 1,200 each.
        String whole = "proc p call p;" + "fail;".repeat(597) + "end";
        String open = "proc p " + "fail;".repeat(599);
        bench.fine(whole);
        bench.fine(whole + "  ");
        bench.fault(whole + " type", ROOM, whole.length() + 1);
        bench.fault(whole + ";", SYNTAX, whole.length());
        bench.fault(open, SYNTAX, open.length());
        bench.fault(open + "end", ROOM, open.length());
        bench.fault(open + "end !", ROOM, open.length());
        bench.fault(open + "type", SYNTAX, open.length());
        bench.fault(open + "!", SYNTAX, open.length());
    }

    private static void twice(Bench bench) {
        bench.marked("type a; type b; type @a;", TWICE);
        bench.marked("type a; sort s : a -> a; sort @s : a -> a;", TWICE);
        bench.fine("type a; sort a : a -> a; rule a node a : a; end");
        bench.marked("rule r end rule @r end", TWICE);
        bench.marked("rule r end proc @r end", TWICE);
        bench.marked("proc r end rule @r end", TWICE);
        bench.marked("proc r end proc @r end", TWICE);
        bench.marked(HEAD + "rule r node x : a; node @x : b; end", TWICE);
        bench.marked(TWO + "link @l : x - s -> y; end", TWICE);
        bench.marked(TWO + "link @x : x - s -> y; end", TWICE);
        bench.marked(TWO + "node @l : a; end", TWICE);
        bench.marked(TWO + "new @x : a; end", TWICE);
        bench.marked(TWO + "new @l : a; end", TWICE);
        bench.marked(TWO + "new z : a; new @z : a; end", TWICE);
        bench.marked(TWO + "del l; new @l : a; end", TWICE);
        bench.marked(TWO + "del l; del x; new @x : a; end", TWICE);
        bench.marked(TWO + "not node @x : a; end end", TWICE);
        bench.marked(TWO + "not link @l : x - s -> x; end end", TWICE);
        bench.marked(TWO + "not node n : a; link @n : n - s -> n; end end", TWICE);
        bench.fine(TWO + "not node n : a; link m : n - s -> n; end not node m : a; link n : m - s -> m; end end");
        bench.fine(TWO + "not node n : a; link m : n - s -> n; end new n : a; new m : a; end");
        bench.fine(TWO + "end rule q node x : a; node y : a; node l : a; end");
    }

    private static void names(Bench bench) {
        bench.marked("type a of @b; type b;", NAME);
        bench.marked("type a of @a;", NAME);
        bench.marked("type a; sort s : @b -> a; type b;", NAME);
        bench.marked("type a; sort s : a -> @b;", NAME);
        bench.marked("rule r node x : @a; end type a;", NAME);
        bench.marked("proc p do @q; end", NAME);
        bench.marked("proc p all @p; end", NAME);
        bench.marked("rule r end proc p any r, @p, r; end", NAME);
        bench.marked("rule r end proc p call @r; end", NAME);
        bench.marked("proc p call @q; end", NAME);
        bench.fine("proc p call q; do r; call p; end rule r end proc q end");
        bench.marked("proc p while loop 1 try do r; then do r; else do @q; end end end end rule r end", NAME);
    }

    private static void namesInRules(Bench bench) {
        bench.marked(HEAD + "rule r link l : @x - s -> x; node x : a; end", NAME);
        bench.marked(TWO + "link m : x - @a -> y; end", NAME);
        bench.marked(TWO + "link m : x - s -> @l; end", NAME);
        bench.marked(TWO + "link m : x - s -> @z; end", NAME);
        bench.marked(TWO + "not node n : a; end not link m : x - s -> @n; end end", NAME);
        bench.marked(TWO + "not link m : x - s -> @n; node n : a; end end", NAME);
        bench.marked(TWO + "not node n : a; end if @n.0 == 1; end", NAME);
        bench.marked(TWO + "not link m : x - s -> x; end del @m; end", NAME);
        bench.marked(TWO + "if @l.0 == 1; end", NAME);
        bench.marked(TWO + "if 1 == (@z.0); end", NAME);
        bench.marked(TWO + "del @z; end", NAME);
        bench.marked(TWO + "del l; del @l; end", NAME);
        bench.marked(TWO + "del l; del y; del @y; end", NAME);
        bench.marked(TWO + "new z : a; del @z; end", NAME);
        bench.marked(TWO + "new z : @s; end", NAME);
        bench.marked(TWO + "join @l - s -> x; end", NAME);
        bench.marked(TWO + "join x - @a -> x; end", NAME);
        bench.marked(TWO + "join x - s -> @z; new z : a; end", NAME);
        bench.marked(TWO + "del l; del x; join @x - s -> y; end", NAME);
        bench.marked(TWO + "del l; del x; join y - s -> @x; end", NAME);
        bench.marked(TWO + "set @l.0 = 1; end", NAME);
        bench.marked(TWO + "del l; del x; set @x.0 = 1; end", NAME);
        bench.marked(TWO + "del l; del x; set y.0 = @x.0; end", NAME);
        bench.marked(TWO + "new z : a; set y.0 = @z.0; end", NAME);
        bench.fine(TWO + "new z : a; set z.0 = y.0; set y.0 = 1; del l; del x; set z.1 = y.1; end");
    }

    private static void types(Bench bench) {
        bench.marked(TWO + "join x - @t -> y; end", TYPE);
        bench.marked(TWO + "new z : c; join x - @t -> z; end", TYPE);
        bench.marked(TWO + "join y - @t -> x; end", TYPE);
        bench.fine(TWO + "new z : c; join y - t -> z; join y - s -> x; end");
        bench.marked(TWO + "new z : c; join z - @s -> x; end", TYPE);
        bench.marked(TWO + "join x - @t -> nix; end", TYPE);
        bench.marked(TWO + "join y - t -> @nix; end", NAME);
        // A link of the pattern may be one that no types allow: it is just never found.
        bench.fine(TWO + "link m : y - t -> x; end");
        bench.marked(TWO + "del @x; end", TYPE);
        bench.marked(TWO + "del @y; end", TYPE);
        bench.fine(TWO + "del l; del y; del x; end");
        bench.marked(TWO + "del l; join x - s -> y; del @x; end", TYPE);
        bench.marked(TWO + "del l; join x - s -> y; del @y; end", TYPE);
        bench.fine(TWO + "del l; join x - s -> x; del y; end");
        bench.fine(TWO + "not link m : x - s -> x; end del l; del x; end");
        bench.marked(TWO + "set x.@2 = 1; end", TYPE);
        bench.marked(TWO + "set x.0 = x.@10; end", TYPE);
        bench.marked(TWO + "if x.@999999999 == 1; end", TYPE);
        bench.fine(TWO + "if x.00 == x.01; end");
        bench.marked("proc p loop @101 end end", TYPE);
        bench.fine("proc p loop 100 loop 000 end end end");
    }

    private static void order(Bench bench) {
        // All faults 1 and 2 come ahead of all others; of the others the first by its place counts.
        bench.marked("type a; type a; type b of c; @;", SYNTAX);
        bench.marked("type a; type @a; sort s : b -> b;", TWICE);
        bench.marked("sort s : @b -> b; type a; type a;", NAME);
        bench.marked("proc p do @q; end rule r end rule r end", NAME);
        bench.marked("proc p loop @101 do q; end end", TYPE);
        bench.marked("proc p do r; loop @101 end end rule r end rule r end", TYPE);
        bench.marked(TWO + "join @z - t -> x; end", NAME);
        bench.marked(TWO + "set @z.2 = 1; end", NAME);
    }

    /** As many names as a rule can have: all are told, and each is known. */
    private static void fullRule(Bench bench) {
        String rule = HEAD + "rule r " + many("node ", 4, " : a; ").replace("@", "");
        StringBuilder links = new StringBuilder();
        StringBuilder own = new StringBuilder();
        StringBuilder news = new StringBuilder();
        for (int i = 0; i < 8; i++) {
            links.append(i < 6 ? "link l" + i + " : n0 - s -> n3; " : "");
            own.append(i < 3 ? "link m" + i + " : n0 - s -> n3; " : "");
            news.append(i < 7 ? "new k" + i + " : a; " : "");
        }
        String not = "not node n : a; " + own + "end ";
        bench.fine(rule + links + not + not + news + "join k6 - s -> n3; end");
        bench.fine(rule + links + not + not + news + "new k7 : a; end");
        bench.marked(rule + links + not + not + news + "new @k6 : a; end", TWICE);
        bench.marked(rule + links + not + "not node n : a; " + own.toString().replace("m2", "@m1") + "end end", TWICE);
        bench.marked(rule + links + not + "not node n : a; " + own.toString().replace("m2", "@l5") + "end end", TWICE);
    }

    private static void whatStays(Bench bench) {
        RewriteDesk desk = bench.desk(HEAD + "rule r new z : a; end rule q node x : a; end "
            + "rule v node x : a; link l : x - s -> x; end proc p do r; do r; end");
        bench.due("count(2)", desk.count(2), 3);
        bench.due("count(3)", desk.count(3), 2);
        bench.due("count(4)", desk.count(4), 3);
        bench.due("count(5)", desk.count(5), 1);
        desk.apply(0);
        desk.keep(2);
        desk.begin(0);
        desk.run(1);
        desk.match(1, 1);
        Bench.type(desk, "type z; type z;");
        bench.due("read() with a fault", desk.read(), TWICE);
        bench.due("place()", desk.place(), 13);
        bench.due("place() once more", desk.place(), 13);
        bench.due("the tape is empty", desk.count(9), 0);
        bench.due("the types stay", desk.count(2), 3);
        bench.due("the nodes stay", desk.count(0), 2);
        bench.due("the applications stay", desk.count(6), 2);
        bench.due("the run goes on", desk.count(8), 4);
        bench.due("the match at hand stays", desk.image(0, false), 1);
        bench.due("what is kept stays", desk.same(2), 0);
        bench.due("the run goes on to its end", desk.run(9), 1);
        bench.due("match(2, 0)", desk.match(2, 0), false);
        desk.link(0, 0, 0);
        bench.due("match(2, 0)", desk.match(2, 0), true);
        bench.due("image(0, true)", desk.image(0, true), 0);

        Bench.type(desk, "type z;");
        bench.due("read()", desk.read(), 0);
        bench.due("place()", desk.place(), RewriteDesk.NONE);
        int[] due = {0, 0, 1, 0, 0, 0, 0, 0, 0, 0, 0};
        for (int what = 0; what < due.length; what++) {
            bench.due("count(" + what + ") behind read()", desk.count(what), due[what]);
        }
        bench.due("nothing is kept", desk.same(2), RewriteDesk.NONE);
        bench.due("no match is at hand", desk.image(0, false), RewriteDesk.NONE);
        bench.due("nor a link of it", desk.image(0, true), RewriteDesk.NONE);
        bench.due("undo(1)", desk.undo(1), false);
        bench.due("run(1)", desk.run(1), RewriteDesk.NONE);
        bench.due("node(0)", desk.node(0), 0);
        bench.due("an empty text", desk.read(), 0);
        bench.due("takes all away", desk.count(2) + desk.count(0), 0);
    }

    /** Nothing of a text is left in those behind it, with and without faults. */
    private static void textAfterText(Bench bench) {
        RewriteDesk desk = new RewriteDesk();
        String full = many("type ", 12, "; ") + many("rule ", 18, " end ").replace("@n17", "@last") + many("proc p", 10, " end ");
        for (int i = 0; i < 4; i++) {
            Bench.type(desk, full.replace("@", ""));
            bench.due("read() of a full text", desk.read(), 0);
            bench.due("its types", desk.count(2), 12);
            bench.due("its rules", desk.count(4), 18);
            bench.due("its procs", desk.count(5), 10);
            Bench.type(desk, "type a; sort s : a -> a; sort t : a -> b;");
            bench.due("read() of a fault", desk.read(), NAME);
        }
        longSums(bench);
        longRows(bench);
        desk = new RewriteDesk();
        // Five texts, an odd number: a text finds in its place first one of them, then another.
        String head = "type a; type b; sort s : a -> a; rule r node x : a; ";
        String rich = head + "node y : a; merge; link l : x - s -> y; not node n : b; link k : n - s -> n; end if 1 < x.0; new z : a; del l; del x; end";
        for (int i = 0; i < 4; i++) {
            Bench.type(desk, rich);
            desk.read();
            desk.node(0);
            bench.due("matches(0) of the rich rule", desk.matches(0), 0);
            Bench.type(desk, head + "end proc p do r; end");
            desk.read();
            desk.node(0);
            desk.link(0, 0, 0);
            bench.due("matches(0) of the poor rule", desk.matches(0), 1);
            bench.due("apply(0)", desk.apply(0), 1);
            bench.due("does nothing", desk.count(0) * 10 + desk.count(1), 11);
            Bench.type(desk, head + "node y : a; link m : y - s -> x; end");
            desk.read();
            desk.node(0);
            desk.link(0, 0, 0);
            bench.due("matches(0) without merge", desk.matches(0), 0);
            bench.due("count(5)", desk.count(5), 0);
            Bench.type(desk, head + "not node n : a; end end");
            desk.read();
            desk.node(0);
            bench.due("matches(0) of a not without links", desk.matches(0), 0);
            Bench.type(desk, head + "not link k : x - s -> x; end end");
            desk.read();
            desk.node(0);
            bench.due("matches(0) of a not without a node", desk.matches(0), 1);
            desk.link(0, 0, 0);
            bench.due("matches(0) of a not without a node", desk.matches(0), 0);
        }
    }

    private static void longSums(Bench bench) {
        RewriteDesk desk = new RewriteDesk();
        for (int i = 0; i < 4; i++) {
            Bench.type(desk, "type a; rule r node x : a; set x.0 = x.0" + "+1".repeat(580) + "; end");
            bench.due("read() of a long sum", desk.read(), 0);
            desk.node(0);
            desk.apply(0);
            bench.due("all of it counts", desk.nodeOf(0, 1), 580);
        }
    }

    private static void longRows(Bench bench) {
        RewriteDesk desk = new RewriteDesk();
        for (int i = 0; i < 6; i++) {
            Bench.type(desk, "rule n if 1<0; end rule g end proc p any n" + ",n".repeat(580) + ",g; end");
            bench.due("read() of a long row", desk.read(), 0);
            desk.begin(0);
            bench.due("the last of it counts", desk.run(1), 1);
            bench.due("count(6)", desk.count(6), 1);
        }
    }
}
