/** Promises 16 and 19: apply and undo; what an application does, and which ones are kept. */
public final class ApplyTest {
    private static final int NONE = RewriteDesk.NONE;
    private static final int BROKEN = -3;
    private static final String HEAD = "type a; type b of a; sort s : a -> a; sort t : a -> a; ";

    public static void main(String[] args) {
        Bench bench = new Bench("ApplyTest");
        inTheOrderTold(bench);
        setsByTheNumbersThatWere(bench);
        mergedSets(bench);
        newOnes(bench);
        freeNumbers(bench);
        roomForNodes(bench);
        roomForLinks(bench);
        roomForEachByItself(bench);
        brokenSums(bench);
        answers(bench);
        undoing(bench);
        theLatestHundred(bench);
        bench.close();
    }

    private static void inTheOrderTold(Bench bench) {
        RewriteDesk desk = bench.desk(HEAD + "rule r node x : a; node y : a; link l : x - s -> y; "
            + "new z : b; join z - t -> x; set z.1 = x.0 + y.0; del l; join x - s -> z; del y; end");
        desk.node(0);
        desk.node(0);
        desk.link(0, 0, 1);
        desk.attribute(0, 0, 20);
        desk.attribute(1, 0, 3);
        bench.due("apply(0)", desk.apply(0), 1);
        bench.due("count(0)", desk.count(0), 2);
        bench.due("count(1)", desk.count(1), 2);
        bench.due("the deleted node", desk.nodeOf(1, 0), NONE);
        bench.due("the new node's type", desk.nodeOf(2, 0), 1);
        bench.due("its first number", desk.nodeOf(2, 1), 0);
        bench.due("its second number", desk.nodeOf(2, 2), 23);
        // The link that was deleted was free again for the second join.
        bench.due("the first join", desk.linkOf(1, 0) * 100 + desk.linkOf(1, 1) * 10 + desk.linkOf(1, 2), 120);
        bench.due("the second join", desk.linkOf(0, 0) * 100 + desk.linkOf(0, 1) * 10 + desk.linkOf(0, 2), 2);
    }

    private static void setsByTheNumbersThatWere(Bench bench) {
        RewriteDesk desk = bench.desk(HEAD + "rule r node x : a; node y : a; if x.0 < y.0; "
            + "set x.0 = y.0; set y.0 = x.0; set x.1 = x.0 + 1; set x.1 = x.1 + 5; end");
        desk.node(0);
        desk.node(0);
        desk.attribute(0, 0, 3);
        desk.attribute(0, 1, 50);
        desk.attribute(1, 0, 9);
        bench.due("apply(0)", desk.apply(0), 1);
        bench.due("x.0", desk.nodeOf(0, 1), 9);
        bench.due("y.0", desk.nodeOf(1, 1), 3);
        bench.due("x.1, by the last set", desk.nodeOf(0, 2), 55);
    }

    private static void mergedSets(Bench bench) {
        RewriteDesk desk = bench.desk(HEAD + "rule r node x : a; node y : a; merge; set x.0 = 5; set y.0 = x.0 + 1; end");
        desk.node(0);
        bench.due("apply(0)", desk.apply(0), 1);
        bench.due("the one node", desk.nodeOf(0, 1), 1);
    }

    private static void newOnes(Bench bench) {
        RewriteDesk desk = bench.desk(HEAD + "rule eight " + "new a : a; new b : a; new c : a; new d : a; new e : a; new f : a; new g : a; new h : a; end "
            + "rule r node x : a; new z : a; new w : b; set w.0 = 4; set z.1 = 3; join w - s -> z; join z - t -> x; end");
        desk.node(0);
        bench.due("apply(1)", desk.apply(1), 1);
        bench.due("the first new one's number", desk.nodeOf(1, 2), 3);
        bench.due("the second new one's number", desk.nodeOf(2, 1), 4);
        bench.due("no other number", desk.nodeOf(1, 1) + desk.nodeOf(2, 2) + desk.nodeOf(0, 1) + desk.nodeOf(0, 2), 0);
        bench.due("the first join", desk.linkOf(0, 1) * 10 + desk.linkOf(0, 2), 21);
        bench.due("the second join", desk.linkOf(1, 1) * 10 + desk.linkOf(1, 2), 10);
        bench.due("apply(0)", desk.apply(0), 1);
        bench.due("count(0)", desk.count(0), 11);
    }

    private static void freeNumbers(Bench bench) {
        RewriteDesk desk = bench.desk(HEAD + "rule r node x : b; set x.0 = 4; del x; new z : a; new w : b; end");
        desk.node(0);
        desk.node(1);
        desk.node(0);
        bench.due("apply(0)", desk.apply(0), 1);
        bench.due("the number that is free at once", desk.nodeOf(1, 0), 0);
        bench.due("its number is 0", desk.nodeOf(1, 1), 0);
        bench.due("the next new one", desk.nodeOf(3, 0), 1);
        bench.due("count(0)", desk.count(0), 4);
    }

    private static void roomForNodes(Bench bench) {
        RewriteDesk desk = bench.desk(HEAD + "rule two new z : a; new w : a; end rule swap node x : b; del x; new z : b; end "
            + "rule late node x : b; new z : b; del x; end");
        for (int i = 0; i < 11; i++) {
            desk.node(i == 7 ? 1 : 0);
        }
        bench.due("two new ones for one", desk.apply(0), BROKEN);
        bench.due("nothing is done", desk.count(0), 11);
        bench.due("none is kept", desk.count(6), 0);
        desk.node(0);
        bench.due("a del ahead of a new one", desk.apply(1), 1);
        bench.due("a del behind a new one", desk.apply(2), BROKEN);
        bench.due("count(0)", desk.count(0), 12);
        bench.due("one is kept", desk.count(6), 1);
    }

    private static void roomForLinks(Bench bench) {
        RewriteDesk desk = bench.desk(HEAD + "rule two node x : a; set x.0 = 1; join x - s -> x; join x - s -> x; end "
            + "rule swap node x : a; link l : x - s -> x; del l; join x - s -> x; end "
            + "rule late node x : a; link l : x - s -> x; join x - s -> x; del l; end");
        desk.node(0);
        for (int i = 0; i < 39; i++) {
            desk.link(0, 0, 0);
        }
        bench.due("two joins for one", desk.apply(0), BROKEN);
        bench.due("nothing is done", desk.count(1) * 10 + desk.nodeOf(0, 1), 390);
        desk.link(0, 0, 0);
        bench.due("a del ahead of a join", desk.apply(1), 1);
        bench.due("a del behind a join", desk.apply(2), BROKEN);
        bench.due("count(1)", desk.count(1), 40);
    }

    private static void roomForEachByItself(Bench bench) {
        RewriteDesk desk = bench.desk(HEAD + "rule less node x : a; link l : x - s -> x; del l; end "
            + "rule more node x : a; join x - s -> x; end rule swap node x : b; node y : a; del x; join y - s -> y; end "
            + "rule grow new z : b; end rule both node x : b; del x; end");
        for (int i = 0; i < 12; i++) {
            desk.node(i == 11 ? 1 : 0);
        }
        for (int i = 0; i < 40; i++) {
            desk.link(0, 0, 0);
        }
        bench.due("a del of a node makes no room for a link", desk.apply(2), BROKEN);
        bench.due("a del of a link needs no room", desk.apply(0), 1);
        bench.due("a new one without room", desk.apply(3), BROKEN);
        bench.due("a join needs no room for a node", desk.apply(1), 1);
        bench.due("a del of a node", desk.apply(4), 1);
        bench.due("a new one needs no room for a link", desk.apply(3), 1);
        bench.due("count(0)", desk.count(0), 12);
        bench.due("count(1)", desk.count(1), 40);
    }

    private static void brokenSums(Bench bench) {
        RewriteDesk desk = bench.desk(HEAD + "rule r node x : a; new z : a; set x.1 = 7; set x.0 = x.0 * x.0 - x.0; end");
        desk.node(0);
        desk.attribute(0, 0, 46340);
        bench.due("the greatest that fits", desk.apply(0), 1);
        bench.due("its worth", desk.nodeOf(0, 1), 46340 * 46340 - 46340);
        desk.undo(1);
        desk.attribute(0, 0, 46341);
        bench.due("a product that breaks", desk.apply(0), BROKEN);
        bench.due("nothing is done", desk.count(0) * 10 + desk.nodeOf(0, 2), 10);
        bench.due("the number stays", desk.nodeOf(0, 1), 46341);
    }

    private static void answers(Bench bench) {
        RewriteDesk desk = bench.desk(HEAD + "rule none end rule some node x : b; end proc p do none; do none; end");
        bench.due("apply(-1)", desk.apply(-1), NONE);
        bench.due("apply(2)", desk.apply(2), NONE);
        bench.due("apply(1) without a match", desk.apply(1), 0);
        bench.due("a rule that does nothing", desk.apply(0), 1);
        bench.due("is an application", desk.count(6), 1);
        desk.begin(0);
        bench.due("apply(0) in a run", desk.apply(0), NONE);
        desk.run(1);
        bench.due("apply(0) in a run", desk.apply(0), NONE);
        bench.due("count(6)", desk.count(6), 2);
        desk.run(1);
        bench.due("apply(0) behind it", desk.apply(0), 1);
        // The first match is the one that counts.
        RewriteDesk first = bench.desk(HEAD + "rule r node x : b; node y : a; set x.0 = x.0 + 1; set y.1 = y.1 + 1; end");
        first.node(0);
        first.node(1);
        first.node(1);
        first.apply(0);
        first.apply(0);
        bench.due("x", first.nodeOf(1, 1), 2);
        bench.due("y", first.nodeOf(0, 2), 2);
    }

    private static void undoing(Bench bench) {
        RewriteDesk desk = bench.desk(HEAD + "rule grow new z : a; end rule tie node x : a; join x - s -> x; set x.0 = x.0 + 1; end "
            + "rule wipe node x : a; link l : x - s -> x; del l; del x; end proc p do grow; do grow; end");
        bench.due("undo(1) of none", desk.undo(1), false);
        desk.apply(0);
        desk.apply(1);
        desk.apply(2);
        bench.due("all is gone", desk.count(0) + desk.count(1), 0);
        bench.due("undo(0)", desk.undo(0), false);
        bench.due("undo(-1)", desk.undo(-1), false);
        bench.due("undo(4)", desk.undo(4), false);
        bench.due("count(6)", desk.count(6), 3);
        bench.due("undo(1)", desk.undo(1), true);
        bench.due("the node is back", desk.nodeOf(0, 1), 1);
        bench.due("the link is back", desk.linkOf(0, 2), 0);
        bench.due("apply(1)", desk.apply(1), 1);
        bench.due("undo(2)", desk.undo(2), true);
        bench.due("the number ahead of both", desk.nodeOf(0, 1), 0);
        bench.due("count(1)", desk.count(1), 0);
        bench.due("count(6)", desk.count(6), 1);
        desk.begin(0);
        bench.due("undo(1) in a run", desk.undo(1), false);
        desk.run(1);
        bench.due("undo(1) in a run", desk.undo(1), false);
        desk.run(1);
        bench.due("count(6) behind the run", desk.count(6), 3);
        bench.due("undo(3)", desk.undo(3), true);
        bench.due("nothing is there", desk.count(0), 0);
        bench.due("undo(1) of none", desk.undo(1), false);
    }

    private static void theLatestHundred(Bench bench) {
        RewriteDesk desk = bench.desk(HEAD + "rule up node x : a; set x.0 = x.0 + 1; end rule down node x : a; if 5 < x.0; set x.0 = 999999999 * 3; end");
        desk.node(0);
        for (int i = 1; i <= 130; i++) {
            desk.apply(0);
            bench.due("count(6)", desk.count(6), Math.min(i, 100));
        }
        bench.due("a broken one", desk.apply(1), BROKEN);
        bench.due("pushes none out", desk.undo(101), false);
        bench.due("undo(100)", desk.undo(100), true);
        bench.due("the number then", desk.nodeOf(0, 1), 30);
        bench.due("undo(1)", desk.undo(1), false);
        for (int i = 0; i < 103; i++) {
            desk.apply(0);
        }
        desk.undo(60);
        bench.due("those pushed out come no more", desk.count(6), 40);
        bench.due("the number then", desk.nodeOf(0, 1), 73);
        bench.due("undo(40)", desk.undo(40), true);
        bench.due("the number then", desk.nodeOf(0, 1), 33);
    }
}
