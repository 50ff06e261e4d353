/** Promises 13 to 15: matches, match, image; and what a match is (III of the document). */
public final class MatchTest {
    private static final int NONE = RewriteDesk.NONE;
    private static final String HEAD = "type a; type b of a; sort s : a -> a; sort t : a -> a; ";
    private static final int MOST = Integer.MAX_VALUE;
    private static final int LEAST = Integer.MIN_VALUE;

    public static void main(String[] args) {
        Bench bench = new Bench("MatchTest");
        order(bench);
        typesAndMerge(bench);
        links(bench);
        nots(bench);
        notsWithoutNodes(bench);
        tests(bench);
        breaks(bench);
        allOfARule(bench);
        loose(bench);
        mergedAndDeleted(bench);
        wrongInputs(bench);
        atHand(bench);
        bench.close();
    }

    private static RewriteDesk desk(Bench bench, String rule, int... types) {
        RewriteDesk desk = bench.desk(HEAD + "rule r " + rule + " end");
        for (int type : types) {
            desk.node(type);
        }
        return desk;
    }

    /** Whether the matches of rule 0 give its nodes just these nodes, in this order. */
    private static void due(Bench bench, RewriteDesk desk, String... nodes) {
        bench.due("matches(0)", desk.matches(0), nodes.length);
        for (int i = 0; i < nodes.length; i++) {
            bench.due("match(0, " + i + ")", desk.match(0, i), true);
            for (int k = 0; k < nodes[i].length(); k++) {
                bench.due("image(" + k + ") of match " + i, desk.image(k, false), nodes[i].charAt(k) - '0');
            }
            bench.due("a node too many", desk.image(nodes[i].length(), false), NONE);
        }
        bench.due("a match too many", desk.match(0, nodes.length), false);
    }

    private static void order(Bench bench) {
        due(bench, desk(bench, "node x : a; node y : a;", 0, 0, 0), "01", "02", "10", "12", "20", "21");
        due(bench, desk(bench, "node x : b; node y : a; node z : a;", 0, 1, 0), "102", "120");
        due(bench, desk(bench, "", 0, 0), "");
        due(bench, desk(bench, "node x : a;"));
        RewriteDesk full = desk(bench, "node x : a; node y : a; node z : a; node w : a; merge;",
            0, 0, 0, 0, 0, 0, 0, 0, 0, 0, 0, 0);
        bench.due("all matches there can be", full.matches(0), 12 * 12 * 12 * 12);
        bench.due("the last one", full.match(0, 20735), true);
        bench.due("image(3, false)", full.image(3, false), 11);
        bench.due("one more", full.match(0, 20736), false);
        // The order of the nodes counts, not that of the links.
        RewriteDesk desk = desk(bench, "node x : a; node y : a; link l : y - s -> x;", 0, 0, 0);
        desk.link(0, 0, 2);
        desk.link(0, 1, 0);
        due(bench, desk, "01", "20");
    }

    private static void typesAndMerge(Bench bench) {
        due(bench, desk(bench, "node x : a;", 0, 1), "0", "1");
        due(bench, desk(bench, "node x : b;", 0, 1), "1");
        due(bench, desk(bench, "node x : a; node y : b;", 0, 1, 1), "01", "02", "12", "21");
        due(bench, desk(bench, "node x : a; node y : b; merge;", 0, 1), "01", "11");
        due(bench, desk(bench, "merge; node x : a; node y : a; merge;", 0, 0), "00", "01", "10", "11");
    }

    private static void links(Bench bench) {
        String two = "node x : a; node y : a; link l : x - s -> y; link m : x - s -> y;";
        RewriteDesk desk = desk(bench, two, 0, 0);
        desk.link(1, 0, 1);
        desk.link(0, 0, 1);
        desk.link(0, 1, 0);
        due(bench, desk);
        desk.link(0, 0, 1);
        due(bench, desk, "01");
        bench.due("the least number", desk.image(0, true), 1);
        bench.due("the next", desk.image(1, true), 3);
        bench.due("a link too many", desk.image(2, true), NONE);
        bench.due("image(-1, true)", desk.image(-1, true), NONE);
        desk.cut(1);
        desk.cut(0);
        desk.link(0, 0, 1);
        desk.link(0, 0, 1);
        desk.match(0, 0);
        bench.due("the least number now", desk.image(0, true), 0);
        bench.due("the next now", desk.image(1, true), 1);

        RewriteDesk merged = desk(bench, "node x : a; node y : a; merge; link l : x - s -> y; link m : y - s -> x;", 0, 0);
        merged.link(0, 0, 0);
        due(bench, merged);
        merged.link(0, 0, 0);
        due(bench, merged, "00");
        bench.due("two links get two", merged.image(0, true) * 10 + merged.image(1, true), 1);

        RewriteDesk loop = desk(bench, "node x : a; link l : x - t -> x;", 0, 0);
        loop.link(1, 0, 1);
        loop.link(0, 0, 0);
        loop.link(1, 1, 1);
        due(bench, loop, "1");
    }

    private static void nots(Bench bench) {
        RewriteDesk desk = desk(bench, "node x : a; not node n : b; link l : x - s -> n; end", 0, 0, 1);
        due(bench, desk, "0", "1", "2");
        desk.link(0, 0, 1);
        desk.link(1, 0, 2);
        due(bench, desk, "0", "1", "2");
        desk.link(0, 0, 2);
        due(bench, desk, "1", "2");
        // A NOT's node may be one that the rule's nodes have.
        desk.link(0, 2, 2);
        due(bench, desk, "1");

        // A NOT's node without links: there is none of its type at all.
        RewriteDesk lone = desk(bench, "node x : a; not node n : b; end", 0);
        due(bench, lone, "0");
        lone.node(1);
        due(bench, lone);

        // Two NOTs: neither may be there.
        RewriteDesk both = desk(bench, "node x : a; not link l : x - s -> x; end not link l : x - t -> x; end", 0, 0, 0);
        both.link(0, 0, 0);
        both.link(1, 1, 1);
        due(bench, both, "2");

        due(bench, desk(bench, "node x : a; not end", 0));
        due(bench, desk(bench, "not end", 0));
    }

    private static void notsWithoutNodes(Bench bench) {
        // The links of the rule are not the NOT's to have.
        RewriteDesk desk = desk(bench, "node x : a; node y : a; link l : x - s -> y; not link m : x - s -> y; end", 0, 0);
        desk.link(0, 0, 1);
        due(bench, desk, "01");
        desk.link(0, 0, 1);
        due(bench, desk);

        // Two links of a NOT are two links.
        RewriteDesk two = desk(bench, "node x : a; not node n : a; link l : x - s -> n; link m : x - s -> n; end", 0, 0);
        two.link(0, 0, 1);
        due(bench, two, "0", "1");
        two.link(0, 0, 1);
        due(bench, two, "1");
    }

    private static void tests(Bench bench) {
        String[] signs = {"==", "!=", "<", "<="};
        String[][] due = {{"1"}, {"0", "2"}, {"0"}, {"0", "1"}};
        for (int i = 0; i < 4; i++) {
            RewriteDesk desk = desk(bench, "node x : a; if x.0 " + signs[i] + " 5;", 0, 0, 0);
            desk.attribute(0, 0, -7);
            desk.attribute(1, 0, 5);
            desk.attribute(2, 0, 6);
            due(bench, desk, due[i]);
        }
        // All tests are to hold; both numbers and all nodes may stand in them.
        RewriteDesk desk = desk(bench, "node x : a; node y : a; if x.0 < y.1; if 2 * y.1 - x.0 == -(0 - 9);", 0, 0, 0);
        desk.attribute(0, 0, 3);
        desk.attribute(1, 1, 6);
        desk.attribute(2, 1, 5);
        due(bench, desk, "01");
        sum(bench, "2 + 3 * 4 - 5", 9);
        sum(bench, "-2 * 3 + 4", -2);
        sum(bench, "-(2 - 3) * (4 + 5)", 9);
        sum(bench, "10 - 3 - 2", 5);
        sum(bench, "2 * (3 + (4 - (5 * (6 - 7)))) * 2", 48);
        sum(bench, "-x.0 + x.1 * x.1", 53);
    }

    /** A sum at a node with the numbers -4 and 7. */
    private static void sum(Bench bench, String sum, int due) {
        RewriteDesk desk = desk(bench, "node x : a; set x.1 = " + sum + ";", 0);
        desk.attribute(0, 0, -4);
        desk.attribute(0, 1, 7);
        bench.due("apply(0)", desk.apply(0), 1);
        bench.due(sum, desk.nodeOf(0, 2), due);
    }

    private static void holds(Bench bench, String test, int first, int second, boolean due) {
        RewriteDesk desk = desk(bench, "node x : a; if " + test + ";", 0);
        desk.attribute(0, 0, first);
        desk.attribute(0, 1, second);
        bench.due(test + " at " + first + ", " + second, desk.matches(0), due ? 1 : 0);
    }

    private static void breaks(Bench bench) {
        holds(bench, "x.0 + x.1 == x.0", MOST, 0, true);
        holds(bench, "x.0 + x.1 != 5", MOST, 1, false);
        holds(bench, "5 != x.0 + x.1", MOST, 1, false);
        holds(bench, "x.0 + x.1 - 1 != 5", MOST, 1, false);
        holds(bench, "x.0 - x.1 != 5", LEAST, 1, false);
        holds(bench, "x.0 - 1 + x.1 < 0", LEAST, 1, false);
        holds(bench, "x.0 * x.1 != 5", 65536, 32768, false);
        holds(bench, "x.0 * x.1 < 0", 65536, -32768, true);
        holds(bench, "0 * (x.0 * x.1) == 0", 65536, 65536, false);
        holds(bench, "-x.0 != 5", LEAST, 0, false);
        holds(bench, "-x.0 < 0", MOST, 0, true);
        holds(bench, "x.0 < x.1", LEAST, MOST, true);
        holds(bench, "999999999 + 999999999 == 2 * 999999999", 0, 0, true);
        holds(bench, "999999999 * 3 != 0", 0, 0, false);
    }

    /** As much as a rule can have: the last of each kind counts too. */
    private static void allOfARule(Bench bench) {
        StringBuilder full = new StringBuilder("node x : a; node y : a; node z : a; node w : a; ");
        String[] ways = {"x - s -> y", "y - s -> z", "z - s -> w", "w - s -> x", "x - t -> z", "y - t -> w"};
        for (int i = 0; i < ways.length; i++) {
            full.append("link l").append(i).append(" : ").append(ways[i]).append("; ");
        }
        String not = "not node n : b; link i : x - s -> n; link j : x - s -> n; link k : n - t -> w; end ";
        full.append(not).append(not.replace("x - s", "w - s"));
        full.append("if x.0 == 0; if y.0 == 1; if z.0 == 2; if w.0 == 3; ");
        RewriteDesk desk = desk(bench, full.toString(), 0, 0, 0, 0, 1);
        for (int i = 0; i < 4; i++) {
            desk.attribute(i, 0, i);
        }
        int[] from = {0, 1, 2, 3, 0, 1};
        int[] to = {1, 2, 3, 0, 2, 3};
        for (int i = 0; i < 6; i++) {
            due(bench, desk);
            desk.link(i / 4, from[i], to[i]);
        }
        due(bench, desk, "0123");
        desk.link(0, 3, 4);
        desk.link(1, 4, 3);
        due(bench, desk, "0123");
        desk.link(0, 3, 4);
        due(bench, desk);
        desk.cut(8);
        due(bench, desk, "0123");
        desk.attribute(3, 0, 4);
        due(bench, desk);
    }

    private static void loose(Bench bench) {
        RewriteDesk desk = desk(bench, "node x : a; node y : a; link l : x - s -> y; del l; del y;", 0, 0, 0);
        desk.link(0, 0, 1);
        due(bench, desk, "01");
        desk.link(1, 2, 0);
        due(bench, desk, "01");
        desk.link(1, 2, 1);
        due(bench, desk);
        desk.cut(2);
        desk.link(1, 1, 2);
        due(bench, desk);
        desk.cut(2);
        desk.link(1, 1, 1);
        due(bench, desk);
        desk.cut(2);
        desk.link(0, 0, 1);
        due(bench, desk);

        RewriteDesk lone = desk(bench, "node x : a; del x;", 0, 0, 0);
        lone.link(0, 0, 1);
        due(bench, lone, "2");
        RewriteDesk own = desk(bench, "node x : a; link l : x - s -> x; del l; del x;", 0, 0);
        own.link(0, 1, 1);
        due(bench, own, "1");
    }

    private static void mergedAndDeleted(Bench bench) {
        due(bench, desk(bench, "node x : a; node y : a; merge; del x;", 0, 0), "01", "10");
        due(bench, desk(bench, "node x : a; node y : a; merge; del y;", 0, 0), "01", "10");
        due(bench, desk(bench, "node x : a; node y : a; node z : a; merge; del z;", 0, 0), "001", "110");
    }

    private static void wrongInputs(Bench bench) {
        RewriteDesk desk = desk(bench, "node x : a;", 0);
        bench.due("matches(-1)", desk.matches(-1), NONE);
        bench.due("matches(1)", desk.matches(1), NONE);
        bench.due("matches(most)", desk.matches(MOST), NONE);
        bench.due("match(-1, 0)", desk.match(-1, 0), false);
        bench.due("match(1, 0)", desk.match(1, 0), false);
        bench.due("match(0, -1)", desk.match(0, -1), false);
        bench.due("match(0, most)", desk.match(0, MOST), false);
        bench.due("image(0, false) ahead of any", desk.image(0, false), NONE);
    }

    private static void atHand(Bench bench) {
        RewriteDesk desk = bench.desk(HEAD
            + "rule cutb node x : b; node y : a; link l : x - s -> y; del l; del x; end "
            + "rule pair node x : a; node y : a; end "
            + "rule burst node x : a; set x.0 = x.0 + 999999999 + 999999999 + 999999999; end "
            + "rule never node x : a; if x.0 < x.0; end "
            + "proc p do pair; any never, cutb, pair; all burst; fail; end "
            + "proc q do burst; end");
        desk.node(0);
        desk.node(0);
        desk.node(1);
        desk.link(0, 1, 0);
        desk.link(0, 2, 1);
        bench.due("match(1, 3)", desk.match(1, 3), true);
        hand(bench, desk, 1, 2, NONE);
        bench.due("match(1, 6)", desk.match(1, 6), false);
        bench.due("match(7, 0)", desk.match(7, 0), false);
        hand(bench, desk, 1, 2, NONE);
        bench.due("apply(3)", desk.apply(3), 0);
        hand(bench, desk, 1, 2, NONE);
        bench.due("apply(2)", desk.apply(2), -3);
        hand(bench, desk, 1, 2, NONE);

        // As it was then: the node and the link that it has are gone.
        bench.due("apply(0)", desk.apply(0), 1);
        hand(bench, desk, 2, 1, 1);
        bench.due("undo(1)", desk.undo(1), true);
        hand(bench, desk, 2, 1, 1);
        desk.attribute(0, 0, 1);
        hand(bench, desk, 2, 1, 1);

        desk.begin(0);
        hand(bench, desk, 2, 1, 1);
        desk.run(1);
        hand(bench, desk, 0, 1, NONE);
        desk.run(1);
        hand(bench, desk, 2, 1, 1);
        bench.due("match(1, 1) in a run", desk.match(1, 1), true);
        bench.due("an all that is broken", desk.run(1), 3);
        hand(bench, desk, 1, 0, NONE);
        desk.match(1, 0);
        hand(bench, desk, 0, 1, NONE);
        desk.begin(1);
        bench.due("a do that is broken", desk.run(1), 3);
        hand(bench, desk, 0, 1, NONE);
    }

    private static void hand(Bench bench, RewriteDesk desk, int first, int second, int link) {
        bench.due("image(0, false)", desk.image(0, false), first);
        bench.due("image(1, false)", desk.image(1, false), second);
        bench.due("image(0, true)", desk.image(0, true), link);
        bench.due("image(-1, false)", desk.image(-1, false), NONE);
        bench.due("image(4, false)", desk.image(4, false), NONE);
        bench.due("image(6, true)", desk.image(6, true), NONE);
    }
}
