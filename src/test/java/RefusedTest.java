import java.util.function.ToLongFunction;

/**
 * Promises 2 to 4 and 6 to 21: "and nothing happens". Of two desks of which all is the same one gets a call that is
 * refused: from then on both answer alike, whatever is asked and done.
 */
public final class RefusedTest {
    private static final int NONE = RewriteDesk.NONE;
    private static final int MOST = Integer.MAX_VALUE;
    private static final int LEAST = Integer.MIN_VALUE;
    private static final int[] OUTSIDE = {LEAST, -1, MOST};

    private static final String TEXT = "type a; type b of a; type c; sort s : a -> a; sort t : b -> c; "
        + "rule grow new z : a; end "
        + "rule up node x : a; if x.0 < 9; set x.0 = x.0 + 1; end "
        + "rule pair node x : a; node y : a; link l : x - s -> y; end "
        + "rule never node x : c; if x.0 < x.0; end "
        + "rule burst node x : a; new z : a; set x.1 = 7; set x.0 = 999999999 * 9; end "
        + "proc p do up; do grow; do up; end proc q call q; end ";

    private final Bench bench;

    private RefusedTest(Bench bench) {
        this.bench = bench;
    }

    public static void main(String[] args) {
        Bench bench = new Bench("RefusedTest");
        RefusedTest test = new RefusedTest(bench);
        test.tape();
        test.full();
        test.byHand();
        test.matching();
        test.applying();
        test.running();
        test.whileARunGoesOn();
        test.keeping();
        test.beforeAnyText();
        test.faults();
        bench.close();
    }

    /** Four nodes and three links, two applications, a match at hand, a diagram kept, and half a text. */
    private RewriteDesk some() {
        RewriteDesk desk = bench.desk(TEXT);
        desk.node(0);
        desk.node(1);
        desk.node(2);
        desk.node(0);
        desk.link(0, 0, 1);
        desk.link(1, 1, 2);
        desk.link(0, 1, 0);
        desk.attribute(1, 1, -4);
        desk.keep(1);
        desk.apply(1);
        desk.apply(0);
        desk.match(2, 1);
        Bench.type(desk, "type k; type");
        return desk;
    }

    private RewriteDesk going() {
        RewriteDesk desk = some();
        desk.begin(0);
        desk.run(1);
        desk.match(2, 1);
        return desk;
    }

    private RewriteDesk filled() {
        RewriteDesk desk = bench.desk(TEXT);
        for (int i = 0; i < 12; i++) {
            desk.node(0);
        }
        for (int i = 0; i < 40; i++) {
            desk.link(0, i % 12, 11);
        }
        desk.apply(1);
        return desk;
    }

    private static void ask(RewriteDesk desk, StringBuilder told) {
        for (int what = 0; what <= 10; what++) {
            told.append(what == 9 ? 0 : desk.count(what)).append(' ');
        }
        for (int k : new int[] {0, 1, 2, 3, 4, 5, 11}) {
            for (int what = 0; what < 5; what++) {
                told.append(desk.nodeOf(k, what)).append(' ');
            }
        }
        for (int k : new int[] {0, 1, 2, 3, 39}) {
            for (int what = 0; what < 3; what++) {
                told.append(desk.linkOf(k, what)).append(' ');
            }
        }
        for (int k = 0; k < 2; k++) {
            told.append(desk.image(k, false)).append(' ').append(desk.image(k, true)).append(' ');
        }
        for (int k = 0; k < 4; k++) {
            told.append(desk.same(k)).append(' ');
        }
        told.append('\n');
    }

    /** What a desk answers from now on: as it is, when its run ends, and when what is kept is taken back. */
    private static String later(RewriteDesk desk, boolean withTape) {
        StringBuilder told = new StringBuilder();
        told.append(withTape ? desk.count(9) * 10000 + desk.place() : 0).append('\n');
        ask(desk, told);
        told.append(desk.run(40)).append(' ');
        ask(desk, told);
        told.append(desk.undo(3)).append(desk.undo(1)).append(desk.undo(1)).append(' ');
        ask(desk, told);
        if (withTape) {
            told.append(desk.back(5)).append(desk.read()).append(desk.place()).append(desk.count(2));
        }
        return told.toString();
    }

    private void due(String what, RewriteDesk one, RewriteDesk other, ToLongFunction<RewriteDesk> call, long due) {
        bench.due(what, call.applyAsLong(one), due);
        bench.due("all is as it was behind " + what, later(one, true).equals(later(other, true)), true);
    }

    private void inSome(String what, ToLongFunction<RewriteDesk> call, long due) {
        due(what, some(), some(), call, due);
    }

    private void inGoing(String what, ToLongFunction<RewriteDesk> call, long due) {
        due(what + " in a run", going(), going(), call, due);
    }

    private static long bit(boolean answer) {
        return answer ? 1 : 0;
    }

    private void tape() {
        for (int n : new int[] {-1, 13, LEAST, MOST}) {
            inSome("back(" + n + ")", desk -> desk.back(n), NONE);
        }
        RewriteDesk[] two = {new RewriteDesk(), new RewriteDesk()};
        for (RewriteDesk desk : two) {
            for (int i = 0; i < 199; i++) {
                Bench.feed(desk, i == 0 ? "type a; type b;" : "");
            }
            Bench.feed(desk, "   type c; type d;");
            desk.back(5);
        }
        bench.due("bytes", two[0].count(9), 3995);
        due("feed() of a tape of 3,995 bytes", two[0], two[1], desk -> Bench.feed(desk, "type e;"), NONE);
    }

    private void full() {
        for (int type = 0; type < 3; type++) {
            int k = type;
            due("a 13th node", filled(), filled(), desk -> desk.node(k), NONE);
        }
        due("a 41st link", filled(), filled(), desk -> desk.link(0, 0, 0), NONE);
        due("a 13th node of a rule", filled(), filled(), desk -> desk.apply(0), -3);
    }

    private void byHand() {
        for (int k : OUTSIDE) {
            inSome("node(" + k + ")", desk -> desk.node(k), NONE);
            inSome("link(" + k + ", 0, 1)", desk -> desk.link(k, 0, 1), NONE);
            inSome("link(0, " + k + ", 1)", desk -> desk.link(0, k, 1), NONE);
            inSome("link(0, 1, " + k + ")", desk -> desk.link(0, 1, k), NONE);
            inSome("attribute(" + k + ", 0, 1)", desk -> bit(desk.attribute(k, 0, 1)), 0);
            inSome("attribute(0, " + k + ", 1)", desk -> bit(desk.attribute(0, k, 1)), 0);
            inSome("remove(" + k + ")", desk -> bit(desk.remove(k)), 0);
            inSome("cut(" + k + ")", desk -> bit(desk.cut(k)), 0);
        }
        inSome("node(3)", desk -> desk.node(3), NONE);
        inSome("link(2, 0, 1)", desk -> desk.link(2, 0, 1), NONE);
        inSome("link from node 5", desk -> desk.link(0, 5, 0), NONE);
        inSome("link to node 12", desk -> desk.link(0, 0, 12), NONE);
        inSome("a link from another type", desk -> desk.link(1, 0, 2), NONE);
        inSome("a link to another type", desk -> desk.link(1, 1, 1), NONE);
        inSome("a link of another type to itself", desk -> desk.link(0, 2, 2), NONE);
        inSome("attribute(5, 0, 1)", desk -> bit(desk.attribute(5, 0, 1)), 0);
        inSome("attribute(12, 0, 1)", desk -> bit(desk.attribute(12, 0, 1)), 0);
        inSome("attribute(0, 2, 1)", desk -> bit(desk.attribute(0, 2, 1)), 0);
        inSome("remove(5)", desk -> bit(desk.remove(5)), 0);
        inSome("remove(12)", desk -> bit(desk.remove(12)), 0);
        inSome("a node that links lead from and to", desk -> bit(desk.remove(1)), 0);
        inSome("a node that a link leads to", desk -> bit(desk.remove(2)), 0);
        inSome("cut(3)", desk -> bit(desk.cut(3)), 0);
        inSome("cut(40)", desk -> bit(desk.cut(40)), 0);
    }

    private void matching() {
        for (int k : OUTSIDE) {
            inSome("matches(" + k + ")", desk -> desk.matches(k), NONE);
            inSome("match(" + k + ", 0)", desk -> bit(desk.match(k, 0)), 0);
            inSome("match(2, " + k + ")", desk -> bit(desk.match(2, k)), 0);
            inSome("image(" + k + ", false)", desk -> desk.image(k, false), NONE);
            inSome("image(" + k + ", true)", desk -> desk.image(k, true), NONE);
        }
        inSome("matches(5)", desk -> desk.matches(5), NONE);
        inSome("match(5, 0)", desk -> bit(desk.match(5, 0)), 0);
        inSome("match(2, 2)", desk -> bit(desk.match(2, 2)), 0);
        inSome("match(3, 0)", desk -> bit(desk.match(3, 0)), 0);
        inSome("matches(1)", desk -> desk.matches(1), 4);
        inGoing("matches(1)", desk -> desk.matches(1), 4);
        inGoing("match(2, 2)", desk -> bit(desk.match(2, 2)), 0);
        inGoing("match(5, 0)", desk -> bit(desk.match(5, 0)), 0);
    }

    private void applying() {
        for (int k : new int[] {-1, 5, LEAST, MOST}) {
            inSome("apply(" + k + ")", desk -> desk.apply(k), NONE);
            inGoing("apply(" + k + ")", desk -> desk.apply(k), NONE);
        }
        inSome("apply() without a match", desk -> desk.apply(3), 0);
        inSome("apply() that is broken", desk -> desk.apply(4), -3);
        for (int k : new int[] {-1, 0, 3, LEAST, MOST}) {
            inSome("undo(" + k + ")", desk -> bit(desk.undo(k)), 0);
        }
    }

    private void running() {
        for (int k : new int[] {-1, 2, LEAST, MOST}) {
            inSome("begin(" + k + ")", desk -> bit(desk.begin(k)), 0);
            inGoing("begin(" + k + ")", desk -> bit(desk.begin(k)), 0);
        }
        for (int n : new int[] {-1, 0, 41, LEAST, MOST}) {
            inSome("run(" + n + ")", desk -> desk.run(n), NONE);
            inGoing("run(" + n + ")", desk -> desk.run(n), NONE);
        }
        inSome("run(1)", desk -> desk.run(1), NONE);
        inSome("run(40)", desk -> desk.run(40), NONE);
    }

    private void whileARunGoesOn() {
        inGoing("node(0)", desk -> desk.node(0), NONE);
        inGoing("link(0, 0, 1)", desk -> desk.link(0, 0, 1), NONE);
        inGoing("attribute(0, 0, 5)", desk -> bit(desk.attribute(0, 0, 5)), 0);
        inGoing("remove(3)", desk -> bit(desk.remove(3)), 0);
        inGoing("cut(0)", desk -> bit(desk.cut(0)), 0);
        for (int rule = 0; rule < 5; rule++) {
            int k = rule;
            inGoing("apply(" + k + ")", desk -> desk.apply(k), NONE);
        }
        for (int n : new int[] {-1, 0, 1, 2, 3, 4, 100}) {
            inGoing("undo(" + n + ")", desk -> bit(desk.undo(n)), 0);
        }
    }

    private void keeping() {
        for (int k : new int[] {-1, 4, 5, LEAST, MOST}) {
            inSome("keep(" + k + ")", desk -> bit(desk.keep(k)), 0);
            inSome("same(" + k + ")", desk -> desk.same(k), NONE);
            inGoing("keep(" + k + ")", desk -> bit(desk.keep(k)), 0);
        }
        inSome("same(0)", desk -> desk.same(0), NONE);
        for (int what : new int[] {-1, 11, LEAST, MOST}) {
            inSome("count(" + what + ")", desk -> desk.count(what), NONE);
            inSome("nodeOf(0, " + what + ")", desk -> desk.nodeOf(0, what), NONE);
            inSome("linkOf(0, " + what + ")", desk -> desk.linkOf(0, what), NONE);
        }
    }

    private void fresh(String what, ToLongFunction<RewriteDesk> call, long due) {
        due(what + " of a new one", new RewriteDesk(), new RewriteDesk(), call, due);
    }

    private void beforeAnyText() {
        fresh("back(1)", desk -> desk.back(1), NONE);
        fresh("node(0)", desk -> desk.node(0), NONE);
        fresh("link(0, 0, 0)", desk -> desk.link(0, 0, 0), NONE);
        fresh("attribute(0, 0, 0)", desk -> bit(desk.attribute(0, 0, 0)), 0);
        fresh("remove(0)", desk -> bit(desk.remove(0)), 0);
        fresh("cut(0)", desk -> bit(desk.cut(0)), 0);
        fresh("nodeOf(0, 0)", desk -> desk.nodeOf(0, 0), NONE);
        fresh("nodeOf(0, 1)", desk -> desk.nodeOf(0, 1), 0);
        fresh("linkOf(0, 0)", desk -> desk.linkOf(0, 0), NONE);
        fresh("matches(0)", desk -> desk.matches(0), NONE);
        fresh("match(0, 0)", desk -> bit(desk.match(0, 0)), 0);
        fresh("apply(0)", desk -> desk.apply(0), NONE);
        fresh("begin(0)", desk -> bit(desk.begin(0)), 0);
        fresh("run(1)", desk -> desk.run(1), NONE);
        fresh("undo(1)", desk -> bit(desk.undo(1)), 0);
        fresh("same(0)", desk -> desk.same(0), NONE);
    }

    /** "With a FAULT nothing changes": of each of the five, in a run and without one; but the tape is empty. */
    private void faults() {
        String[] texts = {"type z; ;", "type z; rule r not node x : z; node y : z; end end", "type z; sort s : z -> z; type z;",
            "type z; rule r node x : z; new y : w; end", "type z; proc p loop 101 end end"};
        for (int i = 0; i < texts.length; i++) {
            for (int turn = 0; turn < 2; turn++) {
                RewriteDesk one = turn == 0 ? some() : going();
                RewriteDesk other = turn == 0 ? some() : going();
                one.back(12);
                Bench.type(one, texts[i]);
                bench.due("read() of " + texts[i], one.read(), i + 1);
                bench.due("bytes behind it", one.count(9), 0);
                bench.due("nothing changes by " + texts[i], later(one, false).equals(later(other, false)), true);
                bench.due("node(2) of the text that stays", one.node(2) >= 0, true);
                bench.due("matches(2) of the text that stays", one.matches(2), 2);
            }
        }
    }
}
