import java.util.Random;

/** Promises 6 to 12, 20, 21, and the Terms: each sentence on nodes, links, types and sorts that names a boundary. */
public final class DiagramBoundsTest {
    private static final int NONE = RewriteDesk.NONE;
    private static final int MOST = Integer.MAX_VALUE;
    private static final int LEAST = Integer.MIN_VALUE;
    private static final int NODES = 12;
    private static final int LINKS = 40;
    private static final String TEXT = "type a; sort s : a -> a; sort t : a -> a; rule more new z : a; end "
        + "rule tie node x : a; join x - t -> x; end rule less node x : a; link l : x - s -> x; del l; end "
        + "rule drop node x : a; del x; end proc p do more; do more; end ";

    public static void main(String[] args) {
        Bench bench = new Bench("DiagramBoundsTest");
        twelveNodes(bench);
        fortyLinks(bench);
        leastFree(bench);
        leastFreeOfRules(bench);
        numbers(bench);
        twelveElders(bench);
        brothers(bench);
        linksCounted(bench);
        fourPlaces(bench);
        keptAsItWas(bench);
        sevenNodes(bench);
        numbersCompared(bench);
        twelveSorts(bench);
        manyOfOneSort(bench);
        withGaps(bench);
        againstAllOrders(bench);
        bench.close();
    }

    private static RewriteDesk desk(Bench bench, int nodes) {
        RewriteDesk desk = bench.desk(TEXT);
        for (int i = 0; i < nodes; i++) {
            bench.due("node " + i, desk.node(0), i);
        }
        return desk;
    }

    /** "NODES, numbered 0 .. 11": node() NONE if "all are there". */
    private static void twelveNodes(Bench bench) {
        RewriteDesk desk = desk(bench, NODES);
        for (int k = 0; k < NODES; k++) {
            // Numbers that look like no node at all make no room.
            desk.attribute(k, 0, -1);
            desk.attribute(k, 1, -1);
        }
        bench.due("a 13th node", desk.node(0), NONE);
        bench.due("count(0)", desk.count(0), NODES);
        bench.due("nodeOf(11, 0)", desk.nodeOf(11, 0), 0);
        bench.due("nodeOf(12, 0)", desk.nodeOf(12, 0), NONE);
        bench.due("attribute(11, 1, 5)", desk.attribute(11, 1, 5), true);
        bench.due("attribute(12, 1, 5)", desk.attribute(12, 1, 5), false);
        bench.due("nodeOf(11, 2)", desk.nodeOf(11, 2), 5);
        bench.due("link(0, 11, 11)", desk.link(0, 11, 11), 0);
        bench.due("link(0, 11, 12)", desk.link(0, 11, 12), NONE);
        bench.due("link(0, 12, 11)", desk.link(0, 12, 11), NONE);
        bench.due("cut(0)", desk.cut(0), true);
        bench.due("remove(12)", desk.remove(12), false);
        bench.due("remove(11)", desk.remove(11), true);
        bench.due("node(0) in its place", desk.node(0), 11);
        bench.due("its numbers", desk.nodeOf(11, 1) | desk.nodeOf(11, 2), 0);
        bench.due("a 13th node again", desk.node(0), NONE);
        for (int k = 0; k < NODES; k++) {
            bench.due("remove(" + k + ")", desk.remove(k), true);
        }
        bench.due("none is left", desk.count(0), 0);
        bench.due("remove(0) of none", desk.remove(0), false);
        bench.due("the first again", desk.node(0), 0);
    }

    /** "LINKS, numbered 0 .. 39": link() NONE if "all are there". */
    private static void fortyLinks(Bench bench) {
        RewriteDesk desk = desk(bench, 2);
        for (int i = 0; i < LINKS; i++) {
            bench.due("link " + i, desk.link(i % 2, i % 2, 1 - i % 2), i);
        }
        bench.due("a 41st link", desk.link(0, 0, 0), NONE);
        bench.due("count(1)", desk.count(1), LINKS);
        bench.due("linkOf(39, 0)", desk.linkOf(39, 0), 1);
        bench.due("linkOf(39, 1)", desk.linkOf(39, 1), 1);
        bench.due("linkOf(39, 2)", desk.linkOf(39, 2), 0);
        bench.due("linkOf(40, 0)", desk.linkOf(40, 0), NONE);
        bench.due("nodeOf(0, 3)", desk.nodeOf(0, 3), 20);
        bench.due("nodeOf(0, 4)", desk.nodeOf(0, 4), 20);
        bench.due("cut(40)", desk.cut(40), false);
        bench.due("cut(39)", desk.cut(39), true);
        bench.due("linkOf(39, 0)", desk.linkOf(39, 0), NONE);
        bench.due("linkOf(39, 1)", desk.linkOf(39, 1), NONE);
        bench.due("linkOf(39, 2)", desk.linkOf(39, 2), NONE);
        bench.due("link in its place", desk.link(0, 1, 1), 39);
        bench.due("a 41st link again", desk.link(0, 1, 1), NONE);
        for (int k = 0; k < LINKS; k++) {
            bench.due("cut(" + k + ")", desk.cut(k), true);
        }
        bench.due("none is left", desk.count(1), 0);
        bench.due("cut(0) of none", desk.cut(0), false);
        bench.due("the first again", desk.link(0, 0, 0), 0);
    }

    /** "a new one has the least number that is free". */
    private static void leastFree(Bench bench) {
        RewriteDesk desk = desk(bench, NODES);
        for (int k : new int[] {11, 0, 5, 4}) {
            desk.remove(k);
        }
        for (int k : new int[] {0, 4, 5, 11, NONE}) {
            bench.due("the least free node", desk.node(0), k);
        }
        for (int i = 0; i < LINKS; i++) {
            desk.link(0, 0, 0);
        }
        for (int k : new int[] {39, 0, 21, 20}) {
            desk.cut(k);
        }
        for (int k : new int[] {0, 20, 21, 39, NONE}) {
            bench.due("the least free link", desk.link(0, 0, 0), k);
        }
    }

    /** The same, where a rule makes them. */
    private static void leastFreeOfRules(Bench bench) {
        RewriteDesk desk = desk(bench, NODES);
        for (int k : new int[] {11, 0, 5}) {
            desk.remove(k);
        }
        for (int k : new int[] {0, 5, 11}) {
            bench.due("no node is there", desk.nodeOf(k, 0), NONE);
            bench.due("apply(0)", desk.apply(0), 1);
            bench.due("the node is there", desk.nodeOf(k, 0), 0);
        }
        bench.due("apply(0) of a 13th node", desk.apply(0), -3);
        for (int i = 0; i < LINKS; i++) {
            desk.link(0, 0, 0);
        }
        for (int k : new int[] {39, 0, 21}) {
            desk.cut(k);
        }
        for (int k : new int[] {0, 21, 39}) {
            bench.due("no link is there", desk.linkOf(k, 0), NONE);
            bench.due("apply(1)", desk.apply(1), 1);
            bench.due("the link is there", desk.linkOf(k, 0), 1);
        }
        bench.due("apply(1) of a 41st link", desk.apply(1), -3);
        // A rule's first link of the sort is the one with the least number: 1, as 0 is of another sort now.
        bench.due("apply(2)", desk.apply(2), 1);
        bench.due("link 1 is gone", desk.linkOf(1, 0), NONE);
        bench.due("apply(1)", desk.apply(1), 1);
        bench.due("link 1 is there", desk.linkOf(1, 0), 1);
    }

    /** "two NUMBERS (ints, at first 0)", 0 and 1, of each node its own. */
    private static void numbers(Bench bench) {
        RewriteDesk desk = desk(bench, NODES);
        int[] values = {LEAST, LEAST + 1, -1, 0, 1, MOST - 1, MOST};
        for (int k = 0; k < NODES; k++) {
            bench.due("at first", desk.nodeOf(k, 1) | desk.nodeOf(k, 2), 0);
            bench.due("attribute", desk.attribute(k, 0, values[k % 7]) && desk.attribute(k, 1, values[(k + 3) % 7]), true);
        }
        for (int k = 0; k < NODES; k++) {
            bench.due("nodeOf(" + k + ", 1)", desk.nodeOf(k, 1), values[k % 7]);
            bench.due("nodeOf(" + k + ", 2)", desk.nodeOf(k, 2), values[(k + 3) % 7]);
        }
        bench.due("attribute(0, 2, 1)", desk.attribute(0, 2, 1), false);
        bench.due("attribute(0, -1, 1)", desk.attribute(0, -1, 1), false);
        for (int k : new int[] {LEAST, -1, 12, MOST}) {
            bench.due("nodeOf(" + k + ", 1)", desk.nodeOf(k, 1), 0);
            bench.due("nodeOf(" + k + ", 2)", desk.nodeOf(k, 2), 0);
            bench.due("nodeOf(" + k + ", 0)", desk.nodeOf(k, 0), NONE);
            bench.due("nodeOf(" + k + ", 3)", desk.nodeOf(k, 3), NONE);
            bench.due("nodeOf(" + k + ", 4)", desk.nodeOf(k, 4), NONE);
        }
        desk.remove(3);
        bench.due("numbers of a node that went", desk.nodeOf(3, 1) | desk.nodeOf(3, 2), 0);
        bench.due("links of a node that went", desk.nodeOf(3, 3), NONE);
        bench.due("apply(0)", desk.apply(0), 1);
        bench.due("numbers of a rule's new node", desk.nodeOf(3, 1) | desk.nodeOf(3, 2), 0);
    }

    private static String chain() {
        StringBuilder text = new StringBuilder("type k0; ");
        for (int i = 1; i < 12; i++) {
            text.append("type k").append(i).append(" of k").append(i - 1).append("; ");
        }
        return text.toString();
    }

    /** "it IS of each TYPE that is it itself, its ELDER, that one's ELDER, and so on": up to the twelfth. */
    private static void twelveElders(Bench bench) {
        StringBuilder text = new StringBuilder(chain());
        for (int i = 0; i < 12; i++) {
            text.append("sort s").append(i).append(" : k").append(i).append(" -> k").append(11 - i).append("; ");
            text.append("rule r").append(i).append(" node x : k").append(i).append("; end ");
        }
        RewriteDesk desk = bench.desk(text.toString());
        for (int i = 0; i < 12; i++) {
            bench.due("node(" + i + ")", desk.node(i), i);
        }
        bench.due("node(12)", desk.node(12), NONE);
        for (int i = 0; i < 12; i++) {
            bench.due("nodes that are of type " + i, desk.matches(i), 12 - i);
            bench.due("the first of them", desk.match(i, 0), true);
            bench.due("is of the type itself", desk.image(0, false), i);
            for (int from = i - 1; from <= i + 1; from++) {
                int to = 11 - i;
                boolean isThere = from >= 0 && from < 12;
                bench.due("link from " + from + " by sort " + i, desk.link(i, from, to) != NONE, isThere && from >= i);
            }
            for (int to = 10 - i; to <= 12 - i; to++) {
                bench.due("link to " + to + " by sort " + i, desk.link(i, i, to) != NONE, to >= 11 - i && to < 12);
            }
            for (int link = 0; link < 4; link++) {
                desk.cut(link);
            }
        }
        bench.due("the last by the first", desk.link(0, 11, 11) >= 0, true);
        bench.due("the first by the last", desk.link(11, 0, 0), NONE);
    }

    /** A heir's brother, and a root, are of nothing else. */
    private static void brothers(Bench bench) {
        RewriteDesk desk = bench.desk("type a; type b of a; type c of a; type d of b; type e; "
            + "sort sb : b -> b; sort sc : c -> c; sort sa : a -> a; sort se : e -> e;");
        for (int type = 0; type < 5; type++) {
            desk.node(type);
        }
        String[] due = {"bd", "c", "abcd", "e"};
        for (int sort = 0; sort < 4; sort++) {
            for (int node = 0; node < 5; node++) {
                boolean isOf = due[sort].indexOf("abcde".charAt(node)) >= 0;
                bench.due("node " + node + " by sort " + sort, desk.link(sort, node, node) != NONE, isOf);
            }
        }
    }

    /** "how many LINKS lead from it (3), to it (4)": from 0 to 40, and one to itself counts for both. */
    private static void linksCounted(Bench bench) {
        RewriteDesk desk = desk(bench, 3);
        for (int i = 0; i <= LINKS; i++) {
            bench.due("links from 1", desk.nodeOf(1, 3), i);
            bench.due("links to 1", desk.nodeOf(1, 4), Math.max(0, i - 10));
            bench.due("links from 2", desk.nodeOf(2, 3), 0);
            bench.due("links to 2", desk.nodeOf(2, 4), Math.min(i, 10));
            desk.link(i % 2, 1, i < 10 ? 2 : 1);
        }
        bench.due("remove(2)", desk.remove(2), false);
        for (int i = 0; i < 10; i++) {
            bench.due("a link leads to it still", desk.remove(2), false);
            desk.cut(i);
        }
        bench.due("remove(2) without links", desk.remove(2), true);
        for (int i = 10; i < LINKS; i++) {
            bench.due("a link of its own", desk.remove(1), false);
            desk.cut(i);
        }
        bench.due("remove(1) without links", desk.remove(1), true);
        bench.due("linkOf(0, -1)", desk.linkOf(0, -1), NONE);
    }

    /** "The DIAGRAM is kept as k (0 .. 3)"; "NONE if nothing is kept as k". */
    private static void fourPlaces(Bench bench) {
        RewriteDesk desk = desk(bench, 1);
        int[] outside = {LEAST, -4, -1, 4, 5, MOST};
        for (int k : outside) {
            bench.due("keep(" + k + ")", desk.keep(k), false);
            bench.due("same(" + k + ")", desk.same(k), NONE);
        }
        for (int k = 3; k >= 0; k--) {
            bench.due("same(" + k + ") of nothing", desk.same(k), NONE);
            bench.due("keep(" + k + ")", desk.keep(k), true);
            bench.due("same(" + k + ")", desk.same(k), 1);
            desk.attribute(0, 0, k + 1);
            bench.due("same(" + k + ") of another", desk.same(k), 0);
        }
        for (int k = 0; k < 4; k++) {
            desk.attribute(0, 0, k == 3 ? 0 : k + 2);
            for (int other = 0; other < 4; other++) {
                bench.due("same(" + other + ") of place " + k, desk.same(other), other == k ? 1 : 0);
            }
        }
        Bench.type(desk, "type a; ;");
        desk.read();
        bench.due("same(3) behind a fault", desk.same(3), 1);
        desk.read();
        for (int k = 0; k < 4; k++) {
            bench.due("same(" + k + ") behind read()", desk.same(k), NONE);
        }
        bench.due("keep(2) of an empty diagram", desk.keep(2), true);
        bench.due("same(2)", desk.same(2), 1);
    }

    /** What is kept stays, whatever is done to the diagram; keep() again keeps the diagram as it is then. */
    private static void keptAsItWas(Bench bench) {
        RewriteDesk desk = desk(bench, 2);
        desk.link(0, 0, 1);
        desk.attribute(1, 1, 3);
        desk.keep(0);
        desk.cut(0);
        desk.remove(0);
        desk.remove(1);
        bench.due("nothing is left", desk.same(0), 0);
        desk.keep(1);
        bench.due("two nodes by a rule", desk.apply(0) + desk.apply(0), 2);
        desk.attribute(0, 1, 3);
        bench.due("all but the link", desk.same(0), 0);
        desk.link(0, 0, 1);
        bench.due("a link the other way", desk.same(0), 0);
        desk.cut(0);
        desk.link(1, 1, 0);
        bench.due("a link of another sort", desk.same(0), 0);
        desk.cut(0);
        desk.link(0, 1, 0);
        bench.due("the same", desk.same(0), 1);
        desk.keep(1);
        bench.due("kept anew", desk.same(1), 1);
        desk.begin(0);
        desk.run(1);
        bench.due("a node more, in a run", desk.same(0), 0);
        bench.due("keep(3) in a run", desk.keep(3), true);
        bench.due("begin(0) takes back", desk.begin(0), true);
        bench.due("the same again", desk.same(0), 1);
        bench.due("what was kept in the run", desk.same(3), 0);
        desk.run(1);
        bench.due("is there again", desk.same(3), 1);
    }

    /** "-2 if one of both has more than 7 NODES". */
    private static void sevenNodes(Bench bench) {
        for (int then = 6; then <= 12; then++) {
            RewriteDesk desk = desk(bench, then);
            desk.keep(0);
            bench.due("same(1) of nothing, with " + then, desk.same(1), NONE);
            while (desk.count(0) > 0) {
                desk.remove(desk.count(0) - 1);
            }
            for (int now = 0; now <= 12; now++) {
                int due = then > 7 || now > 7 ? -2 : then == now ? 1 : 0;
                bench.due("same(0) of " + then + " and " + now, desk.same(0), due);
                desk.node(0);
            }
        }
    }

    /** Both NUMBERS and the TYPE of each node count, to the bit. */
    private static void numbersCompared(Bench bench) {
        RewriteDesk desk = bench.desk("type a; type b of a;");
        for (int i = 0; i < 3; i++) {
            desk.node(i / 2);
            desk.attribute(i, 0, MOST - i);
            desk.attribute(i, 1, LEAST + i);
        }
        desk.keep(0);
        for (int bit = 0; bit < 32; bit++) {
            for (int k = 0; k < 2; k++) {
                int was = desk.nodeOf(2, k + 1);
                desk.attribute(2, k, was ^ 1 << bit);
                bench.due("number " + k + " without bit " + bit, desk.same(0), 0);
                desk.attribute(2, k, was);
            }
        }
        bench.due("as it was", desk.same(0), 1);
        desk.remove(2);
        desk.node(0);
        desk.attribute(2, 0, MOST - 2);
        desk.attribute(2, 1, LEAST + 2);
        bench.due("of the elder type", desk.same(0), 0);
        desk.remove(2);
        bench.due("in another place", desk.remove(0), true);
        desk.node(1);
        desk.attribute(0, 0, MOST - 2);
        desk.attribute(0, 1, LEAST + 2);
        desk.node(0);
        desk.attribute(2, 0, MOST);
        desk.attribute(2, 1, LEAST);
        bench.due("the same with other numbers of nodes", desk.same(0), 1);
    }

    private static String sorts() {
        StringBuilder text = new StringBuilder("type a; ");
        for (int i = 0; i < 12; i++) {
            text.append("sort s").append(i).append(" : a -> a; ");
        }
        return text.toString();
    }

    /** Each of twelve SORTS is told from each other one, at each end. */
    private static void twelveSorts(Bench bench) {
        for (int one = 0; one < 12; one++) {
            RewriteDesk desk = bench.desk(sorts());
            desk.node(0);
            desk.node(0);
            desk.attribute(0, 0, 1);
            desk.link(one, 0, 1);
            desk.link(one, 0, 1);
            desk.link((one + 5) % 12, 1, 0);
            desk.keep(0);
            desk.cut(2);
            for (int other = 0; other < 12; other++) {
                int due = other == (one + 5) % 12 ? 1 : 0;
                bench.due("sort " + other + " for " + (one + 5) % 12, sameWith(desk, other, 1, 0), due);
                bench.due("sort " + other + " turned round", sameWith(desk, other, 0, 1), 0);
                bench.due("sort " + other + " of its own", sameWith(desk, other, 1, 1), 0);
            }
            // Two of a sort here and one of another there are not the same the other way round.
            desk.cut(0);
            desk.link((one + 5) % 12, 0, 1);
            desk.cut(1);
            desk.link(one, 1, 0);
            bench.due("two and one, and one and two", sameWith(desk, one, 1, 0), 0);
        }
    }

    private static int sameWith(RewriteDesk desk, int sort, int from, int to) {
        int link = desk.link(sort, from, to);
        int answer = desk.same(0);
        desk.cut(link);
        return answer;
    }

    /** Any number of links of one sort, 1 to 40, is no other number of links of another one. */
    private static void manyOfOneSort(Bench bench) {
        for (int many = 1; many < LINKS; many++) {
            RewriteDesk desk = bench.desk(sorts());
            desk.node(0);
            desk.node(0);
            desk.attribute(0, 0, 1);
            for (int i = 0; i < many; i++) {
                desk.link(2, 0, 1);
            }
            int last = desk.link(3, 1, 0);
            desk.keep(0);
            bench.due("as it is", desk.same(0), 1);
            for (int i = 0; i <= last; i++) {
                desk.cut(i);
            }
            for (int i = 0; i < many; i++) {
                desk.link(2, 1, 0);
            }
            desk.link(3, 0, 1);
            bench.due(many + " turned round", desk.same(0), 0);
            desk.attribute(0, 0, 0);
            desk.attribute(1, 0, 1);
            bench.due(many + " with their nodes turned round", desk.same(0), 1);
        }
    }

    /** A diagram whose nodes are just those of these numbers, in order, each with one NUMBER of its own. */
    private static void just(RewriteDesk desk, String nodes, int... numbers) {
        for (int i = 0; i < LINKS; i++) {
            desk.cut(i);
        }
        while (desk.node(0) != NONE) {
            // All twelve are there then, and those too many go.
        }
        for (int k = 0, i = 0; k < NODES; k++) {
            if (nodes.indexOf("0123456789xy".charAt(k)) < 0) {
                desk.remove(k);
            } else {
                desk.attribute(k, 0, numbers[i]);
                desk.attribute(k, 1, 0);
                i++;
            }
        }
    }

    /** "but for the numbers of NODES and LINKS": nodes of any numbers, with gaps, one behind the other. */
    private static void withGaps(Bench bench) {
        RewriteDesk desk = desk(bench, 0);
        just(desk, "015", 1, 1, 2);
        desk.keep(0);
        bench.due("0, 1, 5", desk.same(0), 1);
        just(desk, "05", 1, 2);
        desk.keep(1);
        bench.due("0, 5", desk.same(1), 1);
        just(desk, "01", 2, 2);
        bench.due("0, 1 of one number", desk.same(1), 0);
        just(desk, "01", 2, 1);
        bench.due("0, 1 in another order", desk.same(1), 1);
        just(desk, "xy", 1, 2);
        bench.due("10, 11", desk.same(1), 1);
        desk.attribute(11, 0, 3);
        bench.due("10, 11 of another number", desk.same(1), 0);
        desk = desk(bench, 0);
        just(desk, "56789xy", 1, 2, 3, 4, 5, 6, 7);
        desk.link(0, 5, 11);
        desk.keep(0);
        bench.due("5 to 11", desk.same(0), 1);
        just(desk, "0123456", 7, 6, 5, 4, 3, 2, 1);
        bench.due("0 to 6 without the link", desk.same(0), 0);
        desk.link(0, 0, 6);
        bench.due("0 to 6 with the link turned round", desk.same(0), 0);
        desk.cut(0);
        desk.link(1, 0, 0);
        desk.link(0, 6, 0);
        desk.cut(0);
        bench.due("0 to 6 with the link", desk.same(0), 1);
        just(desk, "02468xy", 1, 2, 3, 4, 5, 6, 8);
        desk.link(0, 0, 11);
        bench.due("0, 2, 4, 6, 8, 10, 11 of another number", desk.same(0), 0);
        desk.attribute(11, 0, 7);
        bench.due("0, 2, 4, 6, 8, 10, 11", desk.same(0), 1);
    }

    /** Diagrams of up to four nodes, told one by one from all orders of the other's nodes. */
    private static void againstAllOrders(Bench bench) {
        Random random = new Random(20);
        int alike = 0;
        for (int turn = 0; turn < 1500; turn++) {
            RewriteDesk desk = bench.desk("type a; type b; sort s : a -> a; sort t : a -> a; ");
            int nodes = 1 + random.nextInt(4);
            int links = random.nextInt(5);
            int[] numbers = new int[nodes];
            int[] first = new int[3 * links];
            int[] second = new int[3 * links];
            for (int i = 0; i < nodes; i++) {
                numbers[i] = random.nextInt(4) / 3;
                desk.node(0);
                desk.attribute(i, 0, numbers[i]);
            }
            fill(random, nodes, first);
            fill(random, nodes, second);
            put(desk, first);
            desk.keep(0);
            for (int i = 0; i < links; i++) {
                desk.cut(i);
            }
            put(desk, second);
            boolean isSame = isSame(numbers, first, second, new int[nodes], 0);
            alike += isSame ? 1 : 0;
            bench.due("same(0), turn " + turn, desk.same(0), isSame ? 1 : 0);
        }
        bench.due("some are alike, some are not", alike > 100 && alike < 1400, true);
    }

    private static void fill(Random random, int nodes, int[] links) {
        for (int i = 0; i < links.length; i++) {
            links[i] = random.nextInt(i % 3 == 0 ? 2 : nodes);
        }
    }

    private static void put(RewriteDesk desk, int[] links) {
        for (int i = 0; i < links.length; i += 3) {
            desk.link(links[i], links[i + 1], links[i + 2]);
        }
    }

    private static boolean isSame(int[] numbers, int[] first, int[] second, int[] order, int place) {
        if (place == order.length) {
            return hasAll(first, second, order);
        }
        for (int node = 0; node < order.length; node++) {
            boolean isFree = numbers[node] == numbers[place];
            for (int i = 0; i < place; i++) {
                isFree &= order[i] != node;
            }
            order[place] = node;
            if (isFree && isSame(numbers, first, second, order, place + 1)) {
                return true;
            }
        }
        return false;
    }

    /** Whether the links of the first, their nodes put in another order, are those of the second. */
    private static boolean hasAll(int[] first, int[] second, int[] order) {
        boolean[] isUsed = new boolean[second.length];
        for (int i = 0; i < first.length; i += 3) {
            boolean isFound = false;
            for (int k = 0; k < second.length && !isFound; k += 3) {
                if (!isUsed[k] && first[i] == second[k] && order[first[i + 1]] == second[k + 1] && order[first[i + 2]] == second[k + 2]) {
                    isUsed[k] = true;
                    isFound = true;
                }
            }
            if (!isFound) {
                return false;
            }
        }
        return true;
    }
}
