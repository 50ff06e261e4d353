/** Promises 20 and 21: keep and same. */
public final class SameTest {
    private static final int NONE = RewriteDesk.NONE;
    private static final String TEXT = "type a; type b of a; "
        + "sort s : a -> a; sort t : a -> a; sort u : a -> a; sort v : a -> a; sort w : a -> a; sort x : a -> a; "
        + "sort y : a -> a; rule grow new z : a; end rule r node x : a; del x; end proc p do grow; do grow; end";

    public static void main(String[] args) {
        Bench bench = new Bench("SameTest");
        places(bench);
        otherNumbers(bench);
        nodesThatDiffer(bench);
        linksThatDiffer(bench);
        manyLinks(bench);
        shapes(bench);
        linksToItself(bench);
        behindAnother(bench);
        tooMany(bench);
        whatStays(bench);
        bench.close();
    }

    private static RewriteDesk desk(Bench bench, int nodes) {
        RewriteDesk desk = bench.desk(TEXT);
        for (int i = 0; i < nodes; i++) {
            desk.node(0);
        }
        return desk;
    }

    /** Links of sort 0 between nodes that are told two by two. */
    private static void links(RewriteDesk desk, String ends) {
        for (int i = 0; i + 1 < ends.length(); i += 2) {
            desk.link(0, ends.charAt(i) - '0', ends.charAt(i + 1) - '0');
        }
    }

    private static void cutAll(RewriteDesk desk) {
        for (int i = 0; i < 40; i++) {
            desk.cut(i);
        }
    }

    private static void places(Bench bench) {
        RewriteDesk desk = desk(bench, 1);
        for (int k = -1; k <= 4; k++) {
            bench.due("same(" + k + ") of none", desk.same(k), NONE);
        }
        bench.due("keep(-1)", desk.keep(-1), false);
        bench.due("keep(4)", desk.keep(4), false);
        for (int k = 0; k < 4; k++) {
            bench.due("keep(" + k + ")", desk.keep(k), true);
            desk.node(0);
        }
        desk.remove(4);
        bench.due("same(0)", desk.same(0), 0);
        bench.due("same(2)", desk.same(2), 0);
        bench.due("same(3)", desk.same(3), 1);
        bench.due("keep(0) again", desk.keep(0), true);
        bench.due("same(0)", desk.same(0), 1);
        bench.due("same(-1)", desk.same(-1), NONE);
        bench.due("same(4)", desk.same(4), NONE);
    }

    private static void otherNumbers(Bench bench) {
        RewriteDesk desk = desk(bench, 4);
        links(desk, "0112");
        desk.attribute(0, 0, 5);
        desk.attribute(2, 1, 6);
        desk.keep(0);
        cutAll(desk);
        desk.attribute(0, 0, 0);
        desk.attribute(2, 1, 0);
        bench.due("without links and numbers", desk.same(0), 0);
        links(desk, "1332");
        desk.attribute(1, 0, 5);
        desk.attribute(2, 1, 6);
        bench.due("nodes and links of other numbers", desk.same(0), 1);
        desk.remove(0);
        bench.due("a node less", desk.same(0), 0);
        desk.node(1);
        bench.due("a node of another type", desk.same(0), 0);
        desk.remove(0);
        desk.node(0);
        bench.due("the node again", desk.same(0), 1);
    }

    private static void nodesThatDiffer(Bench bench) {
        RewriteDesk desk = desk(bench, 2);
        desk.attribute(0, 0, 1);
        desk.attribute(1, 1, 1);
        desk.keep(0);
        desk.attribute(0, 0, 0);
        desk.attribute(0, 1, 1);
        desk.attribute(1, 1, 0);
        desk.attribute(1, 0, 1);
        bench.due("the numbers of each other", desk.same(0), 1);
        desk.attribute(0, 1, 0);
        desk.attribute(1, 1, 1);
        bench.due("both numbers at one", desk.same(0), 0);
    }

    private static void linksThatDiffer(Bench bench) {
        RewriteDesk desk = desk(bench, 3);
        links(desk, "0112");
        desk.keep(0);
        cutAll(desk);
        links(desk, "0121");
        bench.due("a link turned round", desk.same(0), 0);
        cutAll(desk);
        links(desk, "2110");
        bench.due("both turned round", desk.same(0), 1);
        cutAll(desk);
        links(desk, "0111");
        bench.due("a link to itself", desk.same(0), 0);
        for (int sort = 1; sort < 7; sort++) {
            cutAll(desk);
            links(desk, "01");
            desk.link(sort, 1, 2);
            bench.due("sort " + sort, desk.same(0), 0);
        }
    }

    /** Each number of links of each sort is told from each other, up to all that can be there. */
    private static void manyLinks(Bench bench) {
        RewriteDesk desk = desk(bench, 2);
        for (int i = 0; i < 40; i++) {
            desk.link(i % 7, 0, 1);
        }
        desk.keep(0);
        cutAll(desk);
        for (int i = 0; i < 40; i++) {
            desk.link(i % 7, 1, 0);
        }
        bench.due("all turned round", desk.same(0), 1);
        desk.cut(39);
        bench.due("one less", desk.same(0), 0);
        desk.link(3, 1, 0);
        bench.due("one of another sort", desk.same(0), 0);
        cutAll(desk);
        for (int i = 0; i < 40; i++) {
            desk.link(0, 0, 1);
        }
        bench.due("40 of one sort", desk.same(0), 0);
        desk.keep(0);
        desk.cut(7);
        desk.link(1, 0, 1);
        bench.due("39 and one of the next", desk.same(0), 0);
    }

    private static void shapes(Bench bench) {
        RewriteDesk desk = desk(bench, 7);
        links(desk, "01122334455660");
        desk.keep(0);
        cutAll(desk);
        links(desk, "02244663355110");
        bench.due("the ring in another order", desk.same(0), 1);
        cutAll(desk);
        links(desk, "06655443322110");
        bench.due("the ring the other way round", desk.same(0), 1);
        cutAll(desk);
        links(desk, "01122334455606");
        bench.due("a ring with one link turned round", desk.same(0), 0);
        cutAll(desk);
        links(desk, "01122034455663");
        bench.due("two rings", desk.same(0), 0);
    }

    private static void linksToItself(Bench bench) {
        RewriteDesk desk = desk(bench, 2);
        links(desk, "0000");
        desk.keep(0);
        cutAll(desk);
        links(desk, "0011");
        bench.due("one at each", desk.same(0), 0);
        cutAll(desk);
        links(desk, "1111");
        bench.due("both at the other", desk.same(0), 1);
    }

    /** What a larger diagram left behind does not count. */
    private static void behindAnother(Bench bench) {
        RewriteDesk desk = desk(bench, 7);
        links(desk, "01122334455660");
        desk.keep(0);
        bench.due("the larger one", desk.same(0), 1);
        cutAll(desk);
        for (int node = 2; node < 7; node++) {
            desk.remove(node);
        }
        desk.attribute(0, 0, 1);
        desk.keep(1);
        bench.due("the smaller one", desk.same(1), 1);
        desk.attribute(0, 0, 2);
        bench.due("another number", desk.same(1), 0);
        desk.attribute(0, 0, 0);
        desk.attribute(1, 0, 1);
        bench.due("the number at the other", desk.same(1), 1);
    }

    private static void tooMany(Bench bench) {
        RewriteDesk desk = desk(bench, 7);
        desk.keep(0);
        bench.due("seven", desk.same(0), 1);
        desk.node(0);
        bench.due("eight now", desk.same(0), -2);
        desk.keep(1);
        bench.due("eight in both", desk.same(1), -2);
        desk.remove(0);
        bench.due("eight then", desk.same(1), -2);
        bench.due("nothing is kept there", desk.same(2), NONE);
    }

    private static void whatStays(Bench bench) {
        RewriteDesk desk = desk(bench, 1);
        desk.keep(0);
        desk.apply(0);
        bench.due("behind apply()", desk.same(0), 0);
        desk.undo(1);
        bench.due("behind undo()", desk.same(0), 1);
        desk.begin(0);
        desk.run(1);
        bench.due("keep(1) in a run", desk.keep(1), true);
        bench.due("same(1) in a run", desk.same(1), 1);
        bench.due("same(0) in a run", desk.same(0), 0);
        desk.run(1);
        bench.due("same(1) behind it", desk.same(1), 0);
        Bench.type(desk, TEXT);
        desk.read();
        bench.due("same(0) behind read()", desk.same(0), NONE);
    }
}
