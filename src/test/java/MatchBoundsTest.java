/** Promises 13 to 16: each sentence of III that names a boundary, at the last that is in and the first that is out. */
public final class MatchBoundsTest {
    private static final int NONE = RewriteDesk.NONE;
    private static final int BROKEN = -3;
    private static final int MOST = Integer.MAX_VALUE;
    private static final int LEAST = Integer.MIN_VALUE;
    private static final String HEAD = "type a; type b of a; sort s : a -> a; sort t : a -> a; ";

    public static void main(String[] args) {
        Bench bench = new Bench("MatchBoundsTest");
        twoNodesTwoNodes(bench);
        noNodes(bench);
        typesOfNodes(bench);
        twoLinksTwoLinks(bench);
        leastNumbers(bench);
        linksOfOthers(bench);
        notWithoutNode(bench);
        notWithNode(bench);
        notLinks(bench);
        whoseLinks(bench);
        allTests(bench);
        comparisons(bench);
        thirtyTwoBits(bench);
        eachSumAndProduct(bench);
        orderOfUnits(bench);
        looseLinks(bench);
        oneNodeForTwo(bench);
        atHand(bench);
        smallerAtHand(bench);
        ahead(bench);
        breaksAhead(bench);
        roomForNew(bench);
        roomForJoins(bench);
        roomAsTheyCome(bench);
        nothingElse(bench);
        allSixLinks(bench);
        fullRule(bench);
        bench.close();
    }

    private static RewriteDesk desk(Bench bench, String rule, int nodes) {
        RewriteDesk desk = bench.desk(HEAD + "rule r " + rule + " end");
        for (int i = 0; i < nodes; i++) {
            desk.node(0);
        }
        return desk;
    }

    /** How many matches there are: the last one is one, the next one is none. */
    private static void due(Bench bench, String what, RewriteDesk desk, int many) {
        bench.due("matches(0), " + what, desk.matches(0), many);
        bench.due("the last one, " + what, desk.match(0, many - 1), many > 0);
        bench.due("one more, " + what, desk.match(0, many), false);
    }

    /** "to two nodes two NODES (but by merge)". */
    private static void twoNodesTwoNodes(Bench bench) {
        StringBuilder nodes = new StringBuilder();
        int apart = 1;
        int merged = 1;
        for (int i = 1; i <= 4; i++) {
            nodes.append("node x").append(i).append(" : a; ");
            for (int many : new int[] {i - 1, i, 12}) {
                apart = 1;
                merged = 1;
                for (int k = 0; k < i; k++) {
                    apart *= Math.max(0, many - k);
                    merged *= many;
                }
                due(bench, i + " nodes of " + many, desk(bench, nodes.toString(), many), apart);
                due(bench, i + " nodes of " + many + " merged", desk(bench, "merge; " + nodes, many), merged);
            }
        }
        RewriteDesk desk = desk(bench, nodes.toString(), 12);
        bench.due("the last of all", desk.match(0, apart - 1), true);
        for (int k = 0; k < 4; k++) {
            bench.due("image(" + k + ", false)", desk.image(k, false), 11 - k);
        }
        bench.due("the first of all", desk.match(0, 0), true);
        for (int k = 0; k < 4; k++) {
            bench.due("image(" + k + ", false)", desk.image(k, false), k);
        }
    }

    /** A rule without nodes has one match, also in an empty diagram, if its tests hold. */
    private static void noNodes(Bench bench) {
        for (int nodes = 0; nodes <= 12; nodes += 6) {
            due(bench, "of no nodes", desk(bench, "", nodes), 1);
            due(bench, "of no nodes, merged", desk(bench, "merge;", nodes), 1);
            due(bench, "that does", desk(bench, "new z : a;", nodes), 1);
            due(bench, "of a test", desk(bench, "if 2 * 3 == 6;", nodes), 1);
            due(bench, "of a test that does not hold", desk(bench, "if 2 * 3 == 5;", nodes), 0);
            due(bench, "of a test that breaks", desk(bench, "if 5 != 99999 * 99999;", nodes), 0);
        }
        RewriteDesk desk = desk(bench, "", 3);
        bench.due("match(0, 0)", desk.match(0, 0), true);
        bench.due("it has no node", desk.image(0, false), NONE);
        bench.due("and no link", desk.image(0, true), NONE);
    }

    /** "gives each of its nodes a NODE that is of its TYPE". */
    private static void typesOfNodes(Bench bench) {
        RewriteDesk desk = desk(bench, "node x : b; node y : a; node z : b;", 2);
        due(bench, "without the type", desk, 0);
        desk.node(1);
        due(bench, "with one of it", desk, 0);
        desk.node(1);
        due(bench, "with two of it", desk, 2 * 2);
        bench.due("match(0, 3)", desk.match(0, 3), true);
        bench.due("x", desk.image(0, false), 3);
        bench.due("y", desk.image(1, false), 1);
        bench.due("z", desk.image(2, false), 2);
        due(bench, "an elder is not of its heir", desk(bench, "node x : b;", 12), 0);
    }

    /** "each of its links a LINK of its SORT between their NODES, to two links two LINKS". */
    private static void twoLinksTwoLinks(Bench bench) {
        StringBuilder links = new StringBuilder("node x : a; node y : a; ");
        for (int i = 1; i <= 6; i++) {
            links.append("link l").append(i).append(" : x - s -> y; ");
            RewriteDesk desk = desk(bench, links.toString(), 2);
            for (int k = 0; k < i; k++) {
                due(bench, k + " links for " + i, desk, 0);
                desk.link(1, 0, 1);
                desk.link(0, 1, 0);
                due(bench, k + " links for " + i + ", of others", desk, k == 0 && i == 1 ? 1 : 0);
                desk.cut(2 * k + 1);
                desk.link(0, 0, 1);
            }
            due(bench, "links for " + i, desk, 1);
            bench.due("x", desk.image(0, false), 0);
        }
    }

    /** "the links, in their order, each the one with the least number that no link ahead of it has". */
    private static void leastNumbers(Bench bench) {
        String rule = "node x : a; node y : a; link k : y - s -> x; link l : x - s -> y; link m : x - t -> y; link n : x - s -> y; "
            + "link o : x - s -> y; link p : y - s -> x;";
        RewriteDesk desk = desk(bench, rule, 2);
        for (int i = 0; i < 40; i++) {
            desk.link(0, 0, 1);
        }
        due(bench, "without the others", desk, 0);
        desk.cut(39);
        desk.cut(20);
        desk.cut(0);
        desk.link(0, 1, 0);
        desk.link(1, 0, 1);
        desk.link(0, 1, 0);
        int[] due = {0, 1, 20, 2, 3, 39};
        bench.due("match(0, 0)", desk.match(0, 0), true);
        bench.due("match(0, 1)", desk.match(0, 1), false);
        for (int k = 0; k < 6; k++) {
            bench.due("image(" + k + ", true)", desk.image(k, true), due[k]);
        }
        for (int i = 1; i < 36; i++) {
            desk.cut(i);
        }
        // Just three of the sort are left, the last ones.
        int[] last = {0, 36, 20, 37, 38, 39};
        desk.link(1, 0, 1);
        desk.cut(1);
        bench.due("link 20 is gone too", desk.matches(0), 0);
        for (int i = 1; i < 20; i++) {
            desk.link(1, 1, 1);
        }
        bench.due("link 20 again", desk.link(1, 0, 1), 20);
        bench.due("match(0, 0)", desk.match(0, 0), true);
        for (int k = 0; k < 6; k++) {
            bench.due("image(" + k + ", true)", desk.image(k, true), last[k]);
        }
        desk.cut(38);
        bench.due("a link too few", desk.matches(0), 0);
    }

    /** "a LINK of its SORT between their NODES": the second of two may not be of another sort, from or to another node. */
    private static void linksOfOthers(Bench bench) {
        String text = "type a; type b of a; type c of a; sort s : a -> a; sort t : a -> a; sort u : a -> a; "
            + "rule r node x : b; node y : c; link l : x - t -> y; link m : x - t -> y; end "
            + "rule q node x : b; node y : c; not link l : x - t -> y; link m : x - t -> y; end end";
        RewriteDesk desk = bench.desk(text);
        for (int type : new int[] {0, 0, 1, 2, 0}) {
            desk.node(type);
        }
        desk.link(1, 2, 3);
        int[][] others = {{0, 2, 3}, {2, 2, 3}, {1, 1, 3}, {1, 4, 3}, {1, 3, 3}, {1, 2, 1}, {1, 2, 4}, {1, 2, 2}, {1, 3, 2}};
        for (int turn = 0; turn < 2; turn++) {
            for (int[] one : others) {
                int link = desk.link(one[0], one[1], one[2]);
                String what = "a link of sort " + one[0] + " from " + one[1] + " to " + one[2];
                bench.due(what, desk.matches(0), turn);
                bench.due("in a NOT " + what, desk.matches(1), 1 - turn);
                if (turn == 0) {
                    desk.cut(link);
                }
            }
            desk.link(1, 2, 3);
        }
        // Now all of these are there, and ahead of some of them the right ones go.
        bench.due("all others", desk.matches(0), 1);
        desk.cut(0);
        bench.due("two of three are left", desk.matches(0), 1);
        desk.cut(1);
        bench.due("one of three is left", desk.matches(0), 0);
        bench.due("a NOT of two", desk.matches(1), 1);
    }

    /** "for no NOT its node (if it has one) can be given": a NOT of nothing at all always can. */
    private static void notWithoutNode(Bench bench) {
        for (int nodes = 0; nodes <= 12; nodes += 4) {
            due(bench, "a NOT of nothing", desk(bench, "not end", nodes), 0);
            due(bench, "the second one of nothing", desk(bench, "not node n : b; end not end", nodes), 0);
            due(bench, "a NOT of nothing for a node", desk(bench, "node x : a; not end", nodes), 0);
        }
        RewriteDesk desk = desk(bench, "node x : a; not link m : x - s -> x; end", 3);
        due(bench, "without links", desk, 3);
        desk.link(0, 0, 1);
        desk.link(1, 1, 1);
        due(bench, "without such links", desk, 3);
        desk.link(0, 1, 1);
        due(bench, "with one", desk, 2);
    }

    /** "can be given a NODE that is of its TYPE (also one that the RULE's nodes have)". */
    private static void notWithNode(Bench bench) {
        RewriteDesk none = desk(bench, "not node n : b; end", 11);
        due(bench, "none of its type", none, 1);
        none.node(1);
        due(bench, "the last one", none, 0);
        RewriteDesk own = desk(bench, "node x : a; not node n : a; end", 1);
        due(bench, "the rule's own node", own, 0);
        RewriteDesk heir = desk(bench, "node x : a; not node n : b; end", 2);
        due(bench, "an elder", heir, 2);
        heir.node(1);
        due(bench, "the heir", heir, 0);
        RewriteDesk linked = desk(bench, "node x : a; not node n : a; link m : n - s -> x; end", 12);
        due(bench, "no link", linked, 12);
        linked.link(0, 11, 0);
        linked.link(1, 11, 1);
        linked.link(0, 3, 2);
        linked.link(0, 5, 5);
        due(bench, "three that are linked to", linked, 9);
        RewriteDesk typed = desk(bench, "node x : a; not node n : b; link m : x - s -> n; end", 2);
        typed.link(0, 0, 1);
        due(bench, "a link to another type", typed, 2);
        typed.node(1);
        typed.link(0, 0, 2);
        due(bench, "a link to the type", typed, 2);
    }

    /** "and its links LINKS likewise": of its sort, their way, two for two. */
    private static void notLinks(Bench bench) {
        String not = "node x : a; not node n : a; link m : x - s -> n; link o : x - s -> n; link p : n - t -> x; end";
        RewriteDesk desk = desk(bench, not, 2);
        int[][] more = {{0, 0, 1}, {0, 1, 0}, {1, 1, 0}, {1, 0, 1}};
        for (int[] one : more) {
            due(bench, "links of a NOT", desk, 2);
            desk.link(one[0], one[1], one[2]);
        }
        due(bench, "one too few", desk, 2);
        desk.link(0, 0, 1);
        due(bench, "all three", desk, 1);
        bench.due("it is the other one's match", desk.match(0, 0) && desk.image(0, false) == 1, true);
        desk.cut(2);
        due(bench, "without the third", desk, 2);
        RewriteDesk two = desk(bench, "node x : a; not link m : x - s -> x; end not link m : x - t -> x; end", 4);
        two.link(0, 0, 0);
        two.link(1, 1, 1);
        two.link(0, 2, 2);
        two.link(1, 2, 2);
        due(bench, "two NOTs", two, 1);
        bench.due("the one that has none", two.match(0, 0) && two.image(0, false) == 3, true);
    }

    /** "none of which the RULE's links have". */
    private static void whoseLinks(Bench bench) {
        String rule = "node x : a; node y : a; link l : x - s -> y; link k : x - s -> y; "
            + "not link m : x - s -> y; link n : x - s -> y; end";
        RewriteDesk desk = desk(bench, rule, 2);
        for (int many = 0; many <= 5; many++) {
            due(bench, many + " links", desk, many == 2 || many == 3 ? 1 : 0);
            desk.link(0, 0, 1);
        }
        RewriteDesk own = desk(bench, "node x : a; link l : x - s -> x; not node n : a; link m : n - s -> n; end", 2);
        own.link(0, 0, 0);
        due(bench, "its own link", own, 1);
        own.link(0, 1, 1);
        due(bench, "the other one's", own, 0);
    }

    /** "all TESTS hold": each of four counts. */
    private static void allTests(Bench bench) {
        RewriteDesk desk = desk(bench, "node x : a; node y : a; if x.0 == 1; if x.1 == 2; if y.0 == 3; if y.1 == 4;", 2);
        for (int i = 0; i < 4; i++) {
            due(bench, i + " tests hold", desk, 0);
            desk.attribute(i / 2, i % 2, i + 1);
        }
        due(bench, "all hold", desk, 1);
        for (int i = 0; i < 4; i++) {
            desk.attribute(i / 2, i % 2, 9);
            due(bench, "all but test " + i, desk, 0);
            desk.attribute(i / 2, i % 2, i + 1);
        }
    }

    /** "'==' | '!=' | '<' | '<='", at equal numbers and at one less and one more, up to the ends. */
    private static void comparisons(Bench bench) {
        RewriteDesk desk = bench.desk(HEAD + "rule e node x : a; if x.0 == x.1; end rule n node x : a; if x.0 != x.1; end "
            + "rule l node x : a; if x.0 < x.1; end rule u node x : a; if x.0 <= x.1; end");
        desk.node(0);
        int[] values = {LEAST, LEAST + 1, -1, 0, 1, MOST - 1, MOST};
        for (int one : values) {
            for (int two : values) {
                desk.attribute(0, 0, one);
                desk.attribute(0, 1, two);
                bench.due(one + " == " + two, desk.matches(0), one == two ? 1 : 0);
                bench.due(one + " != " + two, desk.matches(1), one != two ? 1 : 0);
                bench.due(one + " < " + two, desk.matches(2), one < two ? 1 : 0);
                bench.due(one + " <= " + two, desk.matches(3), one <= two ? 1 : 0);
            }
        }
    }

    /** What a sum at two numbers is worth, in a test and in a set; more than an int is a BREAK. */
    private static void worth(Bench bench, String sum, int one, int two, long due) {
        boolean isInt = due == (int) due;
        RewriteDesk desk = bench.desk(HEAD + "rule h node x : a; if " + sum + " == " + sum + "; end "
            + "rule g node x : a; if x.0 != " + sum + "; end rule w node x : a; new z : a; set z.1 = 1; set x.1 = " + sum + "; end "
            + "rule v node x : a; if x.0 == " + sum + "; end");
        desk.node(0);
        desk.attribute(0, 0, one);
        desk.attribute(0, 1, two);
        String what = sum + " at " + one + ", " + two;
        bench.due("a test of " + what, desk.matches(0), isInt ? 1 : 0);
        bench.due("the other side of a test of " + what, desk.matches(1) + desk.matches(3), isInt ? 1 : 0);
        bench.due("a set of " + what, desk.apply(2), isInt ? 1 : BROKEN);
        bench.due("its worth, " + what, desk.nodeOf(0, 2), isInt ? due : two);
        bench.due("a BREAK does nothing, " + what, desk.count(0), isInt ? 2 : 1);
    }

    /** "32 bits, each sum and product; one that is no int of these is a BREAK". */
    private static void thirtyTwoBits(Bench bench) {
        int[] values = {LEAST, LEAST + 1, -65536, -46341, -2, -1, 0, 1, 2, 46340, 46341, 65536, MOST - 1, MOST};
        for (int one : values) {
            for (int two : values) {
                worth(bench, "x.0 + x.1", one, two, (long) one + two);
                worth(bench, "x.0 - x.1", one, two, (long) one - two);
                worth(bench, "x.0 * x.1", one, two, (long) one * two);
            }
            worth(bench, "-x.0", one, 5, -(long) one);
            worth(bench, "x.0", one, 5, one);
        }
        // One more than the greatest int, and one less than the least, are the first ones out.
        worth(bench, "x.0 * 3", 715827882, 0, 2147483646L);
        worth(bench, "x.0 * 3", 715827883, 0, 2147483649L);
        worth(bench, "x.0 * 3", -715827882, 0, -2147483646L);
        worth(bench, "x.0 * 3", -715827883, 0, -2147483649L);
        worth(bench, "x.0 * 2", -1073741824, 0, LEAST);
        worth(bench, "x.0 * 2", 1073741824, 0, 2147483648L);
        worth(bench, "999999999 + 999999999 + 147483649", 0, 0, MOST);
        worth(bench, "999999999 + 999999999 + 147483650", 0, 0, 2147483648L);
        worth(bench, "-999999999 - 999999999 - 147483650", 0, 0, LEAST);
        worth(bench, "-999999999 - 999999999 - 147483651", 0, 0, -2147483649L);
        // Far outside, so that its lowest 32 bits are an int again.
        worth(bench, "x.0 * x.1", 65536, 65536, 4294967296L);
        worth(bench, "x.0 * x.1", LEAST, LEAST, 1L << 62);
    }

    /** "each": also one that a later sum or product would bring back, or take away. */
    private static void eachSumAndProduct(Bench bench) {
        long broken = 1L << 40;
        worth(bench, "x.0 + 1 - 1", MOST, 0, broken);
        worth(bench, "x.0 - 1 + 1", LEAST, 0, broken);
        worth(bench, "x.0 - 1 + 1", MOST, 0, MOST);
        worth(bench, "1 - 1 + x.0", MOST, 0, MOST);
        worth(bench, "x.0 * 2 - x.0", MOST, 0, broken);
        worth(bench, "0 * (x.0 * 2)", MOST, 0, broken);
        worth(bench, "0 * x.0 * 2", MOST, 0, 0);
        worth(bench, "x.0 * 2 * 0", MOST, 0, broken);
        worth(bench, "-(x.0 + 1)", MOST, 0, broken);
        worth(bench, "-x.0 - 1", MOST, 0, LEAST);
        worth(bench, "-(x.0 * 2)", 1 << 30, 0, broken);
        worth(bench, "x.1 - (x.0 + 1)", MOST, MOST, broken);
        worth(bench, "x.1 - x.0 - 1", MOST, MOST, -1);
        worth(bench, "0 - (x.0 - 1) * 0", LEAST, 0, broken);
    }

    /** "E: ['-'] PART { ('+' | '-') PART }", "PART: UNIT { '*' UNIT }": what is worked out first. */
    private static void orderOfUnits(Bench bench) {
        worth(bench, "20 - 5 - 4", 0, 0, 11);
        worth(bench, "20 - (5 - 4)", 0, 0, 19);
        worth(bench, "20 - 5 + 4", 0, 0, 19);
        worth(bench, "2 + 3 * 4", 0, 0, 14);
        worth(bench, "(2 + 3) * 4", 0, 0, 20);
        worth(bench, "2 * 3 + 4 * 5", 0, 0, 26);
        worth(bench, "-2 + 3", 0, 0, 1);
        worth(bench, "-2 * 3 - 4", 0, 0, -10);
        worth(bench, "-(2 + 3)", 0, 0, -5);
        worth(bench, "-(-(-x.0))", 6, 0, -6);
        worth(bench, "4 - (-2)", 0, 0, 6);
        worth(bench, "x.0 * x.1 - x.1 * (x.0 - 7)", -3, 11, 77);
        worth(bench, "007 - 000000010", 0, 0, -3);
        worth(bench, "((((((((x.0))))))))", 8, 0, 8);
        worth(bench, "1+(2+(3+(4+(5+(6+(7+(8+(9*x.0))))))))", 2, 0, 54);
        worth(bench, "1*(2*(3-(4*(5-(6*(7-(8*(9-x.0))))))))", 2, 0, 2 * (3 - 4 * (5 - 6 * (7 - 8 * 7))));
    }

    /** "no LINK that is given to none of its links would lead from or to a NODE that it deletes". */
    private static void looseLinks(Bench bench) {
        RewriteDesk desk = desk(bench, "node x : a; node y : a; link l : x - s -> y; del l; del x;", 4);
        desk.link(0, 0, 1);
        due(bench, "just its link", desk, 1);
        int[][] loose = {{0, 0, 1}, {1, 0, 1}, {0, 1, 0}, {0, 0, 0}, {0, 0, 2}, {0, 2, 0}, {1, 2, 0}};
        for (int[] one : loose) {
            int link = desk.link(one[0], one[1], one[2]);
            // The first match has the least node: if that is another one, node 0 is in none.
            bench.due("a link from " + one[1] + " to " + one[2] + " of sort " + one[0],
                desk.match(0, 0) && desk.image(0, false) == 0, false);
            desk.cut(link);
        }
        int[][] fast = {{0, 1, 2}, {0, 2, 1}, {0, 1, 1}, {1, 2, 2}};
        for (int[] one : fast) {
            int link = desk.link(one[0], one[1], one[2]);
            bench.due("a link from " + one[1] + " to " + one[2], desk.match(0, 0) && desk.image(0, false) == 0, true);
            desk.cut(link);
        }
        // The 40th link counts too.
        for (int i = 1; i < 39; i++) {
            desk.link(0, 1, 1);
        }
        bench.due("without one that is loose", desk.matches(0), 1);
        bench.due("the last link", desk.link(1, 3, 0), 39);
        bench.due("with one that is loose", desk.matches(0), 0);
        // A link that a rule has and does not delete is none of these, nor one that it deletes elsewhere.
        RewriteDesk third = desk(bench, "node x : a; node y : a; node z : a; link l : x - s -> y; del z;", 4);
        third.link(0, 0, 1);
        due(bench, "two nodes without links", third, 2);
        third.link(0, 2, 3);
        due(bench, "none without links", third, 0);
    }

    /** "no two nodes, one of them deleted, have one NODE". */
    private static void oneNodeForTwo(Bench bench) {
        String nodes = "node x : a; node y : a; node z : a; merge; ";
        due(bench, "all merged", desk(bench, nodes, 2), 8);
        due(bench, "one deleted", desk(bench, nodes + "del x;", 2), 2);
        due(bench, "the last one deleted", desk(bench, nodes + "del z;", 2), 2);
        due(bench, "two deleted", desk(bench, nodes + "del x; del z;", 2), 0);
        due(bench, "two deleted of three", desk(bench, nodes + "del x; del z;", 3), 6);
        due(bench, "all deleted of three", desk(bench, nodes + "del x; del y; del z;", 3), 6);
        RewriteDesk desk = desk(bench, nodes + "del x;", 2);
        desk.match(0, 0);
        bench.due("x", desk.image(0, false), 0);
        bench.due("y and z are one", desk.image(1, false) * 10 + desk.image(2, false), 11);
        bench.due("apply(0)", desk.apply(0), 1);
        bench.due("node 0 is gone", desk.nodeOf(0, 0), NONE);
        bench.due("node 1 is not", desk.nodeOf(1, 0), 0);
    }

    /** "that of the latest match() that was true, apply() that was 1, or do, any of a RUN that was done". */
    private static void atHand(Bench bench) {
        RewriteDesk desk = bench.desk(HEAD + "rule one node x : a; if x.0 == 1; end rule two node x : a; if x.0 == 2; end "
            + "rule none node x : a; if x.0 == 9; end rule bad node x : a; if x.0 == 3; set x.1 = 99999 * 99999; end "
            + "proc p do one; all two; any none, two; all one; try do none; then else end do bad; end");
        for (int i = 0; i < 4; i++) {
            desk.node(0);
            desk.attribute(i, 0, i);
        }
        hand(bench, desk, "ahead of any", NONE);
        bench.due("matches(0)", desk.matches(0), 1);
        hand(bench, desk, "matches() takes none", NONE);
        bench.due("match(2, 0)", desk.match(2, 0), false);
        bench.due("apply(2)", desk.apply(2), 0);
        bench.due("apply(3)", desk.apply(3), BROKEN);
        hand(bench, desk, "none of them was one", NONE);
        bench.due("match(3, 0)", desk.match(3, 0), true);
        hand(bench, desk, "match() that was true", 3);
        bench.due("matches(0)", desk.matches(0), 1);
        hand(bench, desk, "matches() takes none", 3);
        bench.due("apply(1)", desk.apply(1), 1);
        hand(bench, desk, "apply() that was 1", 2);
        bench.due("undo(1)", desk.undo(1), true);
        hand(bench, desk, "undo() takes none away", 2);
        bench.due("apply(2)", desk.apply(2), 0);
        bench.due("apply(3)", desk.apply(3), BROKEN);
        hand(bench, desk, "none of them was 1", 2);
        desk.begin(0);
        hand(bench, desk, "begin() takes none", 2);
        int[] due = {1, 1, 2, 2, 2, 2};
        for (int i = 0; i < due.length; i++) {
            desk.run(1);
            hand(bench, desk, "step " + i, due[i]);
        }
        bench.due("the last step is broken", desk.run(1), 3);
        hand(bench, desk, "a broken one takes none", 2);
        desk.attribute(2, 0, 7);
        bench.due("the node goes", desk.remove(2), true);
        hand(bench, desk, "as it was then", 2);
    }

    private static void hand(Bench bench, RewriteDesk desk, String what, int due) {
        bench.due("image(0, false), " + what, desk.image(0, false), due);
        bench.due("image(1, false), " + what, desk.image(1, false), NONE);
        bench.due("image(0, true), " + what, desk.image(0, true), NONE);
    }

    /** "NONE if there is none such": nodes 0 to 3, links 0 to 5, and of a smaller match no more than it has. */
    private static void smallerAtHand(Bench bench) {
        StringBuilder large = new StringBuilder();
        StringBuilder links = new StringBuilder();
        for (int i = 0; i < 4; i++) {
            large.append("node x").append(i).append(" : a; ");
        }
        for (int i = 0; i < 6; i++) {
            links.append("link l").append(i).append(" : x0 - s -> x").append(i % 3 + 1).append("; ");
        }
        RewriteDesk desk = bench.desk(HEAD + "rule l " + large + links + "end rule m node x : a; node y : a; link k : x - s -> y; end "
            + "rule n node x : b; end rule o end");
        for (int i = 0; i < 4; i++) {
            desk.node(i == 3 ? 1 : 0);
        }
        for (int i = 0; i < 6; i++) {
            desk.link(0, 0, i % 3 + 1);
        }
        int[] nodes = {4, 2, 1, 0};
        int[] many = {6, 1, 0, 0};
        for (int rule = 0; rule < 4; rule++) {
            bench.due("match(" + rule + ", 0)", desk.match(rule, 0), true);
            for (int k = -1; k <= 7; k++) {
                int node = k < 0 || k >= nodes[rule] ? NONE : rule == 2 ? 3 : k;
                int link = k < 0 || k >= many[rule] ? NONE : k;
                bench.due("image(" + k + ", false) of rule " + rule, desk.image(k, false), node);
                bench.due("image(" + k + ", true) of rule " + rule, desk.image(k, true), link);
            }
            bench.due("image(most, false)", desk.image(MOST, false), NONE);
            bench.due("image(least, true)", desk.image(LEAST, true), NONE);
        }
        bench.due("match(0, 6) of six", desk.match(0, 6), false);
        bench.due("match(0, 5)", desk.match(0, 5), true);
        bench.due("the last link again", desk.image(5, true), 3);
    }

    /** "what set tells is worked out, of all ahead of all else (by the NUMBERS as they were)". */
    private static void ahead(Bench bench) {
        RewriteDesk desk = desk(bench, "node x : a; node y : a; if x.0 < y.0; new z : a; set z.0 = x.1; set x.1 = y.1; set y.1 = x.0; "
            + "set x.0 = y.0; set y.0 = x.1; set z.1 = y.0 + y.1; set x.0 = x.0 + 100;", 2);
        desk.attribute(0, 0, 1);
        desk.attribute(0, 1, 2);
        desk.attribute(1, 0, 3);
        desk.attribute(1, 1, 4);
        bench.due("apply(0)", desk.apply(0), 1);
        int[] due = {101, 4, 2, 1, 2, 7};
        for (int i = 0; i < 6; i++) {
            bench.due("number " + i % 2 + " of node " + i / 2, desk.nodeOf(i / 2, i % 2 + 1), due[i]);
        }
    }

    /** "if one BREAKS ...: nothing is done", wherever among the eight it stands. */
    private static void breaksAhead(Bench bench) {
        for (int place = 0; place < 7; place++) {
            StringBuilder does = new StringBuilder("node x : a; link l : x - s -> x; del l; ");
            for (int i = 0; i < 7; i++) {
                does.append(i == place ? "set x.1 = x.0 + 1; " : i == 3 ? "new z : a; " : "set x.0 = 7; ");
            }
            RewriteDesk desk = desk(bench, does.toString(), 1);
            desk.link(0, 0, 0);
            desk.attribute(0, 0, MOST);
            bench.due("a BREAK at " + place, desk.apply(0), BROKEN);
            bench.due("nothing is done", desk.count(0) * 10 + desk.count(1), 11);
            bench.due("nor set", desk.nodeOf(0, 1), MOST);
            bench.due("nor kept", desk.count(6), 0);
            desk.attribute(0, 0, MOST - 1);
            bench.due("the last that fits", desk.apply(0), 1);
            bench.due("all is done", desk.count(1), 0);
            bench.due("and set", desk.nodeOf(0, 2), MOST);
        }
    }

    private static String times(String one, int many) {
        StringBuilder text = new StringBuilder();
        for (int i = 0; i < many; i++) {
            text.append(one.replace("#", "z" + i));
        }
        return text.toString();
    }

    /** "a new ... would be a NODE ... too many": one to eight of them, into just enough room and one less. */
    private static void roomForNew(Bench bench) {
        for (int many = 1; many <= 8; many++) {
            String rule = times("new # : a; ", many);
            RewriteDesk desk = desk(bench, rule, 12 - many);
            bench.due(many + " new ones", desk.apply(0), 1);
            bench.due("all are there", desk.count(0), 12);
            bench.due("no more", desk.apply(0), BROKEN);
            desk.undo(1);
            desk.node(0);
            bench.due(many + " new ones, one too many", desk.apply(0), BROKEN);
            bench.due("nothing is done", desk.count(0), 13 - many);
        }
    }

    /** "or join ... a LINK too many". */
    private static void roomForJoins(Bench bench) {
        for (int many = 1; many <= 8; many++) {
            RewriteDesk desk = desk(bench, "node x : a; " + times("join x - s -> x; ", many), 1);
            for (int i = many; i < 40; i++) {
                desk.link(1, 0, 0);
            }
            bench.due(many + " joins", desk.apply(0), 1);
            bench.due("all are there", desk.count(1), 40);
            bench.due("no more", desk.apply(0), BROKEN);
            desk.undo(1);
            desk.link(1, 0, 0);
            bench.due(many + " joins, one too many", desk.apply(0), BROKEN);
            bench.due("nothing is done", desk.count(1), 41 - many);
        }
    }

    /** "as they come one by one": what is deleted ahead makes room, what is deleted behind does not. */
    private static void roomAsTheyCome(Bench bench) {
        String nodes = "node x : b; node y : b; ";
        String links = "node x : a; link l : x - s -> x; link k : x - s -> x; ";
        String[] fit = {nodes + "del x; new z : b; del y; new w : b;", nodes + "del x; del y; new z : b; new w : b;",
            links + "del l; join x - s -> x; del k; join x - s -> x;", links + "del k; del l; join x - s -> x; join x - s -> x;"};
        String[] burst = {nodes + "new z : b; del x; del y; new w : b;", nodes + "del x; new z : b; new w : b; del y;",
            links + "join x - s -> x; del l; del k;", links + "del l; join x - s -> x; join x - s -> x; del k;",
            nodes + "del x; join y - s -> y;", links + "del l; new z : a;"};
        for (int i = 0; i < fit.length + burst.length; i++) {
            boolean fits = i < fit.length;
            RewriteDesk desk = desk(bench, fits ? fit[i] : burst[i - fit.length], 10);
            desk.node(1);
            desk.node(1);
            for (int k = 0; k < 40; k++) {
                desk.link(0, 0, 0);
            }
            bench.due("apply(0) of the full diagram, " + i, desk.apply(0), fits ? 1 : BROKEN);
            bench.due("it is full still, " + i, desk.count(0) * 100 + desk.count(1), 1240);
        }
    }

    /** A join sets no number, a set no link; what a rule does not tell stays. */
    private static void nothingElse(Bench bench) {
        RewriteDesk desk = bench.desk(HEAD + "rule j node x : b; node y : a; join x - s -> y; join y - t -> x; end "
            + "rule n node x : b; new z : b; end rule k node x : a; node y : a; link l : x - s -> y; link m : y - t -> x; del l; end "
            + "rule v node x : b; set x.0 = 9; set x.1 = 8; end");
        desk.node(0);
        desk.node(1);
        for (int i = 0; i < 4; i++) {
            desk.attribute(i / 2, i % 2, 50 + i);
        }
        for (int rule : new int[] {3, 0, 1, 2, 0}) {
            desk.attribute(1, 0, 52);
            desk.attribute(1, 1, 53);
            if (rule == 3) {
                bench.due("apply(3)", desk.apply(3), 1);
                bench.due("both are set", desk.nodeOf(1, 1) * 10 + desk.nodeOf(1, 2), 98);
                bench.due("undo(1)", desk.undo(1), true);
            } else {
                bench.due("apply(" + rule + ")", desk.apply(rule), 1);
            }
            for (int i = 0; i < 4; i++) {
                bench.due("a number stays, rule " + rule, desk.nodeOf(i / 2, i % 2 + 1), 50 + i);
            }
        }
        bench.due("links in the end", desk.count(1), 3);
        bench.due("nodes in the end", desk.count(0), 3);
    }

    /** New nodes, links deleted behind them, and joins behind these: each is the one that was told. */
    private static void allSixLinks(Bench bench) {
        StringBuilder rule = new StringBuilder("node x : a; ");
        for (int i = 0; i < 6; i++) {
            rule.append("link l").append(i).append(" : x - s -> x; ");
        }
        for (int gone = 0; gone < 6; gone++) {
            String does = "new v : a; new w : b; del l" + gone + "; join v - t -> w; join w - t -> v; set v.0 = 5; set w.1 = 6; join x - t -> w;";
            RewriteDesk desk = desk(bench, rule + does, 1);
            for (int i = 0; i < 7; i++) {
                desk.link(0, 0, 0);
            }
            bench.due("apply(0) without link " + gone, desk.apply(0), 1);
            bench.due("the nodes", desk.nodeOf(1, 0) * 10 + desk.nodeOf(2, 0), 1);
            bench.due("their numbers", desk.nodeOf(1, 1) * 10 + desk.nodeOf(2, 2), 56);
            bench.due("no other numbers", desk.nodeOf(1, 2) | desk.nodeOf(2, 1) | desk.nodeOf(0, 1) | desk.nodeOf(0, 2), 0);
            int[] links = {gone, 7, 8};
            int[] ends = {12, 21, 2};
            for (int i = 0; i < 3; i++) {
                bench.due("join " + i, desk.linkOf(links[i], 1) * 10 + desk.linkOf(links[i], 2), ends[i]);
                bench.due("its sort", desk.linkOf(links[i], 0), 1);
            }
            bench.due("links in all", desk.count(1), 9);
        }
    }

    /** Four tests, of two sums each, and eight sets: none stands in another's place. */
    private static void fullRule(Bench bench) {
        StringBuilder rule = new StringBuilder();
        StringBuilder sets = new StringBuilder();
        for (int i = 0; i < 4; i++) {
            rule.append("node x").append(i).append(" : a; ");
            for (int k = 0; k < 2; k++) {
                sets.append("set x").append(i).append('.').append(k).append(" = x").append(3 - i).append('.').append(1 - k)
                    .append(" + ").append(100 * i + k).append("; ");
            }
        }
        for (int i = 0; i < 4; i++) {
            rule.append("if x").append(i).append(".0 + ").append(i).append(" == ").append(11 * i).append(" - x").append(i).append(".1; ");
        }
        RewriteDesk desk = desk(bench, rule.toString() + sets, 4);
        for (int i = 0; i < 4; i++) {
            desk.attribute(i, 0, 4 * i);
            desk.attribute(i, 1, 6 * i);
        }
        due(bench, "each node's own test", desk, 1);
        bench.due("apply(0)", desk.apply(0), 1);
        for (int i = 0; i < 4; i++) {
            bench.due("x" + i + ".0", desk.nodeOf(i, 1), 6 * (3 - i) + 100 * i);
            bench.due("x" + i + ".1", desk.nodeOf(i, 2), 4 * (3 - i) + 100 * i + 1);
        }
        due(bench, "none holds now", desk, 0);
    }
}
