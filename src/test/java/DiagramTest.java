/** Promises 6 to 12: node, link, attribute, remove, cut, nodeOf, linkOf. */
public final class DiagramTest {
    private static final int NONE = RewriteDesk.NONE;
    private static final String TEXT = "type a; type b of a; type c of b; type d; "
        + "sort s : a -> b; sort t : a -> a; rule noop end proc p do noop; do noop; end";

    public static void main(String[] args) {
        Bench bench = new Bench("DiagramTest");
        nodes(bench);
        links(bench);
        attributes(bench);
        removing(bench);
        cutting(bench);
        asking(bench);
        whileARunGoesOn(bench);
        forgetting(bench);
        bench.close();
    }

    private static void nodes(Bench bench) {
        RewriteDesk desk = bench.desk(TEXT);
        bench.due("node(-1)", desk.node(-1), NONE);
        bench.due("node(4)", desk.node(4), NONE);
        for (int i = 0; i < 12; i++) {
            bench.due("node " + i, desk.node(i % 4), i);
        }
        bench.due("a 13th node", desk.node(0), NONE);
        bench.due("count(0)", desk.count(0), 12);
        bench.due("remove(3)", desk.remove(3), true);
        bench.due("remove(7)", desk.remove(7), true);
        bench.due("the least free number", desk.node(1), 3);
        bench.due("and the next", desk.node(2), 7);
        bench.due("its type", desk.nodeOf(7, 0), 2);
    }

    private static void links(Bench bench) {
        RewriteDesk desk = bench.desk(TEXT);
        for (int type = 0; type < 4; type++) {
            desk.node(type);
        }
        bench.due("link(-1, 0, 1)", desk.link(-1, 0, 1), NONE);
        bench.due("link(2, 0, 1)", desk.link(2, 0, 1), NONE);
        bench.due("link from none", desk.link(1, -1, 1), NONE);
        bench.due("link from none such", desk.link(1, 4, 1), NONE);
        bench.due("link to none", desk.link(1, 1, 12), NONE);
        bench.due("a to a by s", desk.link(0, 0, 0), NONE);
        bench.due("a to b by s", desk.link(0, 0, 1), 0);
        bench.due("c to c by s", desk.link(0, 2, 2), 1);
        bench.due("d to b by s", desk.link(0, 3, 1), NONE);
        bench.due("a to d by t", desk.link(1, 0, 3), NONE);
        bench.due("c to a by t", desk.link(1, 2, 0), 2);
        bench.due("the same once more", desk.link(1, 2, 0), 3);
        bench.due("cut(1)", desk.cut(1), true);
        bench.due("the least free number", desk.link(1, 0, 0), 1);
        for (int i = 4; i < 40; i++) {
            bench.due("link " + i, desk.link(1, 0, 1), i);
        }
        bench.due("a 41st link", desk.link(1, 0, 1), NONE);
        bench.due("count(1)", desk.count(1), 40);
    }

    private static void attributes(Bench bench) {
        RewriteDesk desk = bench.desk(TEXT);
        desk.node(0);
        bench.due("at first", desk.nodeOf(0, 1) | desk.nodeOf(0, 2), 0);
        bench.due("attribute(0, 0, -5)", desk.attribute(0, 0, -5), true);
        bench.due("attribute(0, 1, most)", desk.attribute(0, 1, Integer.MAX_VALUE), true);
        bench.due("nodeOf(0, 1)", desk.nodeOf(0, 1), -5);
        bench.due("nodeOf(0, 2)", desk.nodeOf(0, 2), Integer.MAX_VALUE);
        bench.due("attribute(0, 2, 1)", desk.attribute(0, 2, 1), false);
        bench.due("attribute(0, -1, 1)", desk.attribute(0, -1, 1), false);
        bench.due("attribute(1, 0, 1)", desk.attribute(1, 0, 1), false);
        bench.due("attribute(-1, 0, 1)", desk.attribute(-1, 0, 1), false);
        bench.due("attribute(12, 0, 1)", desk.attribute(12, 0, 1), false);
        bench.due("nodeOf(0, 1) stays", desk.nodeOf(0, 1), -5);
        desk.remove(0);
        desk.node(1);
        bench.due("a new one's numbers", desk.nodeOf(0, 1) | desk.nodeOf(0, 2), 0);
    }

    private static void removing(Bench bench) {
        RewriteDesk desk = bench.desk(TEXT);
        desk.node(1);
        desk.node(1);
        desk.node(1);
        desk.link(0, 0, 1);
        desk.link(1, 2, 2);
        bench.due("remove(-1)", desk.remove(-1), false);
        bench.due("remove(3)", desk.remove(3), false);
        bench.due("remove(12)", desk.remove(12), false);
        bench.due("where a link leads from", desk.remove(0), false);
        bench.due("where a link leads to", desk.remove(1), false);
        bench.due("where a link leads to itself", desk.remove(2), false);
        desk.cut(0);
        bench.due("remove(1)", desk.remove(1), true);
        bench.due("remove(1) again", desk.remove(1), false);
        bench.due("count(0)", desk.count(0), 2);
        bench.due("no link to it", desk.link(0, 0, 1), NONE);
    }

    private static void cutting(Bench bench) {
        RewriteDesk desk = bench.desk(TEXT);
        desk.node(1);
        desk.link(0, 0, 0);
        bench.due("cut(-1)", desk.cut(-1), false);
        bench.due("cut(1)", desk.cut(1), false);
        bench.due("cut(40)", desk.cut(40), false);
        bench.due("cut(0)", desk.cut(0), true);
        bench.due("cut(0) again", desk.cut(0), false);
        bench.due("count(1)", desk.count(1), 0);
    }

    private static void asking(Bench bench) {
        RewriteDesk desk = bench.desk(TEXT);
        desk.node(0);
        desk.node(2);
        desk.attribute(1, 0, 8);
        desk.attribute(1, 1, 9);
        desk.link(0, 0, 1);
        desk.link(1, 1, 1);
        desk.link(1, 1, 0);
        int[] due = {2, 8, 9, 2, 2};
        for (int what = 0; what < 5; what++) {
            bench.due("nodeOf(1, " + what + ")", desk.nodeOf(1, what), due[what]);
            int other = what == 1 || what == 2 ? 0 : NONE;
            bench.due("nodeOf(2, " + what + ")", desk.nodeOf(2, what), other);
            bench.due("nodeOf(-1, " + what + ")", desk.nodeOf(-1, what), other);
            bench.due("nodeOf(12, " + what + ")", desk.nodeOf(12, what), other);
        }
        bench.due("nodeOf(1, 5)", desk.nodeOf(1, 5), NONE);
        bench.due("nodeOf(1, -1)", desk.nodeOf(1, -1), NONE);
        bench.due("nodeOf(0, 3)", desk.nodeOf(0, 3), 1);
        bench.due("nodeOf(0, 4)", desk.nodeOf(0, 4), 1);
        desk.cut(2);
        bench.due("nodeOf(1, 3) of one less", desk.nodeOf(1, 3), 1);
        bench.due("nodeOf(1, 4) as before", desk.nodeOf(1, 4), 2);
        desk.link(1, 1, 0);
        bench.due("linkOf(2, 0)", desk.linkOf(2, 0), 1);
        bench.due("linkOf(2, 1)", desk.linkOf(2, 1), 1);
        bench.due("linkOf(2, 2)", desk.linkOf(2, 2), 0);
        bench.due("linkOf(2, 3)", desk.linkOf(2, 3), NONE);
        bench.due("linkOf(2, -1)", desk.linkOf(2, -1), NONE);
        bench.due("linkOf(0, 2)", desk.linkOf(0, 2), 1);
        for (int k : new int[] {-1, 3, 39, 40}) {
            bench.due("linkOf(" + k + ", 0)", desk.linkOf(k, 0), NONE);
            bench.due("linkOf(" + k + ", 1)", desk.linkOf(k, 1), NONE);
        }
    }

    private static void whileARunGoesOn(Bench bench) {
        RewriteDesk desk = bench.desk(TEXT);
        desk.node(1);
        desk.link(0, 0, 0);
        desk.begin(0);
        for (int i = 0; i < 2; i++) {
            bench.due("node(0) in a run", desk.node(0), NONE);
            bench.due("link(0, 0, 0) in a run", desk.link(0, 0, 0), NONE);
            bench.due("attribute(0, 0, 1) in a run", desk.attribute(0, 0, 1), false);
            bench.due("remove(0) in a run", desk.remove(0), false);
            bench.due("cut(0) in a run", desk.cut(0), false);
            bench.due("count(0)", desk.count(0), 1);
            bench.due("count(1)", desk.count(1), 1);
            bench.due("nodeOf(0, 1)", desk.nodeOf(0, 1), 0);
            bench.due("run(1)", desk.run(1), i);
        }
        bench.due("node(0) behind it", desk.node(0), 1);
    }

    private static void forgetting(Bench bench) {
        RewriteDesk desk = bench.desk(TEXT);
        kept(bench, desk, "node()", desk.node(1) >= 0);
        desk.apply(0);
        kept(bench, desk, "node() of none such", desk.node(9) >= 0);
        kept(bench, desk, "node()", desk.node(1) >= 0);
        desk.apply(0);
        kept(bench, desk, "link() of none such", desk.link(0, 0, 9) >= 0);
        kept(bench, desk, "link()", desk.link(0, 0, 1) >= 0);
        desk.apply(0);
        kept(bench, desk, "attribute() of none such", desk.attribute(0, 5, 1));
        kept(bench, desk, "attribute()", desk.attribute(0, 0, 1));
        desk.apply(0);
        kept(bench, desk, "remove() of one that has a link", desk.remove(0));
        kept(bench, desk, "cut() of none such", desk.cut(7));
        kept(bench, desk, "cut()", desk.cut(0));
        desk.apply(0);
        kept(bench, desk, "remove()", desk.remove(0));
    }

    /** What did something has forgotten the one application that was kept; what did nothing has not. */
    private static void kept(Bench bench, RewriteDesk desk, String what, boolean done) {
        bench.due("count(6) behind " + what, desk.count(6), done ? 0 : 1);
    }
}
