/** Promises 16 to 19 and 22: each sentence of IV, and on ALL of a rule, that names a boundary. */
public final class RunBoundsTest {
    private static final int NONE = RewriteDesk.NONE;
    private static final int SUCCEEDED = 1;
    private static final int FAILED = 2;
    private static final int BROKEN = 3;
    private static final int GOES_ON = 4;

    /** up counts without end, low up to 3; grow and drop make and delete a node; never has no match, burst breaks. */
    private static final String RULES = "type a; type b; sort s : a -> a; "
        + "rule up node x : a; set x.0 = x.0 + 1; end "
        + "rule low node x : a; if x.0 < 3; set x.0 = x.0 + 1; end "
        + "rule grow new z : b; end "
        + "rule drop node x : b; del x; end "
        + "rule noop end "
        + "rule never node x : a; if x.0 < x.0; end "
        + "rule burst node x : a; set x.1 = 999999999 * 3; end ";

    public static void main(String[] args) {
        Bench bench = new Bench("RunBoundsTest");
        fortySteps(bench);
        noStepMore(bench);
        emptyRows(bench);
        oneByOne(bench);
        takenBackInTurn(bench);
        firstOfAny(bench);
        calledRows(bench);
        twentyProcs(bench);
        whileTurns(bench);
        moreThanAreKept(bench);
        loopTurns(bench);
        loopTakenBack(bench);
        tries(bench);
        eightDeep(bench);
        howItEnds(bench);
        brokenAtOnce(bench);
        hundredKept(bench);
        hundredInARun(bench);
        pushedOut(bench);
        pushedOutByARun(bench);
        begunAgain(bench);
        takenByAll(bench);
        allOfOneToFour(bench);
        allOfNoNodes(bench);
        allOfTheDiagramAsItIs(bench);
        stillAMatch(bench);
        brokenAll(bench);
        openOnes(bench);
        bench.close();
    }

    private static RewriteDesk desk(Bench bench, String procs) {
        RewriteDesk desk = bench.desk(RULES + procs);
        desk.node(0);
        return desk;
    }

    /** Runs a proc to its end, forty steps at a time. */
    private static int end(RewriteDesk desk, int proc) {
        int answer = desk.begin(proc) ? 0 : NONE;
        for (int i = 0; i < 60 && answer == 0; i++) {
            answer = desk.run(40);
        }
        return answer;
    }

    /** How proc 0 ends, its steps, and node 0's number, the nodes and the applications that it leaves. */
    private static RewriteDesk due(Bench bench, String procs, int ended, int steps, int number, int nodes, int kept) {
        RewriteDesk desk = desk(bench, procs);
        bench.due("the end of " + procs, end(desk, 0), ended);
        bench.due("count(8) of " + procs, desk.count(8), ended);
        bench.due("the steps of " + procs, desk.count(7), steps);
        bench.due("the number of " + procs, desk.nodeOf(0, 1), number);
        bench.due("the nodes of " + procs, desk.count(0), nodes);
        bench.due("the applications of " + procs, desk.count(6), kept);
        bench.due("what is open of " + procs, desk.count(10), 0);
        bench.due("run(1) behind " + procs, desk.run(1), NONE);
        return desk;
    }

    /** "At most n STEPS (1 .. 40)". */
    private static void fortySteps(Bench bench) {
        RewriteDesk desk = desk(bench, "proc p loop 50 do up; end end");
        for (int n : new int[] {-1, 0, 41, Integer.MIN_VALUE, Integer.MAX_VALUE}) {
            bench.due("run(" + n + ") without a run", desk.run(n), NONE);
        }
        desk.begin(0);
        int steps = 0;
        for (int n : new int[] {1, 40, 39, 0, 2, 41, -1, 1, 3}) {
            boolean isOne = n >= 1 && n <= 40;
            bench.due("run(" + n + ")", desk.run(n), isOne ? 0 : NONE);
            steps += isOne ? n : 0;
            bench.due("steps behind run(" + n + ")", desk.count(7), steps);
            // The loop is a step, then a turn and a do in turn.
            bench.due("what they did", desk.nodeOf(0, 1), (steps - 1) / 2);
            bench.due("it goes on", desk.count(8), GOES_ON);
        }
        bench.due("run(14) of the last 15", desk.run(14), 0);
        bench.due("run(1) of the last", desk.run(1), SUCCEEDED);
        bench.due("all steps", desk.count(7), 101);
        bench.due("run(1) behind the end", desk.run(1), NONE);
        bench.due("the steps stay", desk.count(7), 101);
    }

    /** A run that ends takes no step more, however many it might. */
    private static void noStepMore(Bench bench) {
        for (int n = 1; n <= 40; n++) {
            RewriteDesk desk = desk(bench, "proc p do up; do up; do up; end proc q do up; do up; fail; do up; end");
            desk.begin(0);
            bench.due("run(" + n + ")", desk.run(n), n >= 3 ? SUCCEEDED : 0);
            bench.due("steps of run(" + n + ")", desk.count(7), Math.min(n, 3));
            bench.due("what run(" + n + ") did", desk.nodeOf(0, 1), Math.min(n, 3));
            desk.begin(1);
            int number = desk.nodeOf(0, 1);
            bench.due("run(" + n + ") of one that fails", desk.run(n), n >= 3 ? FAILED : 0);
            bench.due("steps of it", desk.count(7), Math.min(n, 3));
            bench.due("what it did", desk.nodeOf(0, 1), number + (n >= 3 ? 0 : n));
        }
    }

    /** A row of no DOS succeeds. */
    private static void emptyRows(Bench bench) {
        due(bench, "proc p end", SUCCEEDED, 0, 0, 1, 0);
        due(bench, "proc p call q; do up; end proc q end", SUCCEEDED, 2, 1, 1, 1);
        due(bench, "proc p try then do up; else fail; end end", SUCCEEDED, 2, 1, 1, 1);
        due(bench, "proc p try then else end do up; end", SUCCEEDED, 2, 1, 1, 1);
        due(bench, "proc p try fail; then fail; else end do up; end", SUCCEEDED, 3, 1, 1, 1);
        due(bench, "proc p loop 0 end do up; end", SUCCEEDED, 2, 1, 1, 1);
        due(bench, "proc p loop 2 end do up; end", SUCCEEDED, 4, 1, 1, 1);
        due(bench, "proc p while end do up; end", SUCCEEDED, 3, 1, 1, 1);
    }

    /** "A row of DOS SUCCEEDS if each does"; "where one FAILS it FAILS, and all that was done by it is taken back". */
    private static void oneByOne(Bench bench) {
        due(bench, "proc p do up; end", SUCCEEDED, 1, 1, 1, 1);
        due(bench, "proc p do never; end", FAILED, 1, 0, 1, 0);
        due(bench, "proc p all never; end", FAILED, 1, 0, 1, 0);
        due(bench, "proc p any never; end", FAILED, 1, 0, 1, 0);
        due(bench, "proc p fail; end", FAILED, 1, 0, 1, 0);
        due(bench, "proc p do noop; do up; all grow; do up; any drop; end", SUCCEEDED, 5, 2, 1, 5);
        due(bench, "proc p do up; do grow; do up; do never; do up; end", FAILED, 4, 0, 1, 0);
        due(bench, "proc p do never; do up; end", FAILED, 1, 0, 1, 0);
        due(bench, "proc p do up; all drop; do up; end", FAILED, 2, 0, 1, 0);
        due(bench, "proc p do up; any drop, never; do up; end", FAILED, 2, 0, 1, 0);
        due(bench, "proc p " + "do low; ".repeat(3) + "end", SUCCEEDED, 3, 3, 1, 3);
        due(bench, "proc p " + "do low; ".repeat(4) + "end", FAILED, 4, 0, 1, 0);
    }

    /** What fails inside takes back its own row, and no more where that is caught. */
    private static void takenBackInTurn(Bench bench) {
        due(bench, "proc p do up; try do grow; do grow; fail; then else end do up; end", SUCCEEDED, 6, 2, 1, 2);
        due(bench, "proc p do up; try do grow; try do grow; fail; then else do up; end then do up; else fail; end end",
            SUCCEEDED, 8, 3, 2, 4);
        due(bench, "proc p do up; while do grow; do low; end do up; end", SUCCEEDED, 12, 4, 3, 6);
        due(bench, "proc p try do up; call q; then else do grow; end end proc q do up; call r; end proc r do up; fail; end",
            SUCCEEDED, 8, 0, 2, 1);
        due(bench, "proc p try loop 2 do up; try do grow; then fail; else end end then else do drop; end end", FAILED, 8, 0, 1, 0);
    }

    /** "any: does the first of these RULES that has a MATCH". */
    private static void firstOfAny(Bench bench) {
        due(bench, "proc p any up; end", SUCCEEDED, 1, 1, 1, 1);
        due(bench, "proc p any up, grow; end", SUCCEEDED, 1, 1, 1, 1);
        due(bench, "proc p any grow, up; end", SUCCEEDED, 1, 0, 2, 1);
        due(bench, "proc p any never, drop, up, grow; end", SUCCEEDED, 1, 1, 1, 1);
        due(bench, "proc p any never, drop, never, grow; end", SUCCEEDED, 1, 0, 2, 1);
        due(bench, "proc p any never, drop, never; end", FAILED, 1, 0, 1, 0);
        due(bench, "proc p any never, burst, up; end", BROKEN, 1, 0, 1, 0);
        due(bench, "proc p any up, burst; end", SUCCEEDED, 1, 1, 1, 1);
        due(bench, "proc p any noop, up; end", SUCCEEDED, 1, 0, 1, 1);
    }

    /** "call p: its row". */
    private static void calledRows(Bench bench) {
        due(bench, "proc p call q; end proc q do up; do up; end", SUCCEEDED, 3, 2, 1, 2);
        due(bench, "proc p do up; call q; do up; end proc q do up; fail; end", FAILED, 4, 0, 1, 0);
        due(bench, "proc p call q; call q; do up; end proc q do up; end", SUCCEEDED, 5, 3, 1, 3);
        due(bench, "proc p call q; end proc q call r; end proc r call t; end proc t do up; end", SUCCEEDED, 4, 1, 1, 1);
        due(bench, "proc p while call q; end end proc q do low; end", SUCCEEDED, 1 + 3 * 3 + 3, 3, 1, 3);
    }

    /** "or at a call with 20 PROCS open": the 20th is open by 19 calls, the 20th call is the first one out. */
    private static void twentyProcs(Bench bench) {
        // Node 0's number tells how many are open; the last one calls no more.
        String rules = "type a; rule first node x : a; if x.0 == 0; set x.0 = 1; end rule deep node x : a; if x.0 < x.1; set x.0 = x.0 + 1; end ";
        for (int calls = 18; calls <= 20; calls++) {
            for (String call : new String[] {"try do deep; then call p; else end", "try do deep; call p; then else end"}) {
                RewriteDesk desk = bench.desk(rules + "proc p " + call + " end");
                desk.node(0);
                desk.attribute(0, 1, calls);
                bench.due("the end by " + calls + " calls", end(desk, 0), calls < 20 ? SUCCEEDED : BROKEN);
                bench.due("how many procs were open", desk.nodeOf(0, 1), calls);
                bench.due("the applications", desk.count(6), calls);
                bench.due("the steps", desk.count(7), calls < 20 ? 3 * calls + 2 : 3 * calls);
            }
        }
        due(bench, "proc p call p; end", BROKEN, 20, 0, 1, 0);
        due(bench, "proc p do up; call q; end proc q call p; end", BROKEN, 30, 10, 1, 10);
        due(bench, "proc p try call p; then else do grow; end end", BROKEN, 40, 0, 1, 0);
        // One that is through is open no more, nor is one that failed.
        due(bench, "proc p loop 21 call q; end end proc q do up; end", SUCCEEDED, 1 + 21 * 3, 21, 1, 21);
        due(bench, "proc p loop 21 try call q; then else end end end proc q do up; fail; end", SUCCEEDED, 1 + 21 * 5, 0, 1, 0);
        due(bench, "proc p while call q; end end proc q do up; call r; end proc r do low; end", SUCCEEDED, 1 + 2 * 5, 2, 1, 2);
        due(bench, "proc p " + "call q; ".repeat(25) + "end proc q end", SUCCEEDED, 25, 0, 1, 0);
    }

    /** "while: its row again and again till it FAILS"; "also behind a turn by which no APPLICATION more stands". */
    private static void whileTurns(Bench bench) {
        due(bench, "proc p while fail; end end", SUCCEEDED, 3, 0, 1, 0);
        due(bench, "proc p while do never; end end", SUCCEEDED, 3, 0, 1, 0);
        due(bench, "proc p while do low; end end", SUCCEEDED, 1 + 4 * 2, 3, 1, 3);
        due(bench, "proc p while do low; do grow; end end", SUCCEEDED, 1 + 3 * 3 + 2, 3, 4, 6);
        due(bench, "proc p while do grow; do low; end end", SUCCEEDED, 1 + 4 * 3, 3, 4, 6);
        due(bench, "proc p while all low; end end", SUCCEEDED, 1 + 4 * 2, 3, 1, 3);
        due(bench, "proc p while do low; do noop; end end", SUCCEEDED, 1 + 3 * 3 + 2, 3, 1, 6);
        // Turns that leave nothing: an empty one, and one whose applications are all taken back.
        due(bench, "proc p while end end", SUCCEEDED, 2, 0, 1, 0);
        due(bench, "proc p while try do up; do up; fail; then else end end end", SUCCEEDED, 6, 0, 1, 0);
        due(bench, "proc p while while do low; end end end", SUCCEEDED, 1 + 1 + 9 + 1 + 3, 3, 1, 3);
        due(bench, "proc p while loop 0 do up; end call q; end end proc q end", SUCCEEDED, 4, 0, 1, 0);
        // Turns by which the diagram is as it was, but applications stand.
        due(bench, "proc p while do noop; do low; end end", SUCCEEDED, 1 + 3 * 3 + 3, 3, 1, 6);
        due(bench, "proc p do grow; while do drop; do grow; do low; end end", SUCCEEDED, 2 + 3 * 4 + 4, 3, 2, 10);
        due(bench, "proc p while do up; do burst; end end", BROKEN, 4, 1, 1, 1);
        due(bench, "proc p while while while fail; end end end end", SUCCEEDED, 7, 0, 1, 0);
    }

    /** More applications than are kept stand all the same: a while goes on, and a failing row takes them back. */
    private static void moreThanAreKept(Bench bench) {
        String rules = "type a; rule up node x : a; if x.0 < 130; set x.0 = x.0 + 1; end ";
        RewriteDesk desk = bench.desk(rules + "proc p while do up; end end proc q while do up; end fail; end "
            + "proc r try while do up; end fail; then else end end");
        int[] ended = {SUCCEEDED, FAILED, SUCCEEDED};
        desk.node(0);
        for (int proc = 1; proc <= 2; proc++) {
            for (int number = 0; number <= 2; number++) {
                desk.attribute(0, 0, number);
                bench.due("the end of proc " + proc, end(desk, proc), ended[proc]);
                bench.due("all is taken back", desk.nodeOf(0, 1), number);
                bench.due("none is kept", desk.count(6), 0);
            }
        }
        desk.attribute(0, 0, 0);
        bench.due("the end of proc 0", end(desk, 0), SUCCEEDED);
        bench.due("its steps", desk.count(7), 1 + 131 * 2);
        bench.due("the number", desk.nodeOf(0, 1), 130);
        bench.due("count(6)", desk.count(6), 100);
        bench.due("undo(101)", desk.undo(101), false);
        bench.due("undo(100)", desk.undo(100), true);
        bench.due("the number then", desk.nodeOf(0, 1), 30);
    }

    /** "loop n: its row n times": 0, 1, 2, 99, 100. */
    private static void loopTurns(Bench bench) {
        for (int n : new int[] {0, 1, 2, 3, 99, 100}) {
            due(bench, "proc p loop " + n + " do up; end end", SUCCEEDED, 1 + 2 * n, n, 1, n);
            due(bench, "proc p loop " + n + " end end", SUCCEEDED, 1 + n, 0, 1, 0);
            due(bench, "proc p loop " + n + " do up; end do grow; end", SUCCEEDED, 2 + 2 * n, n, 2, Math.min(n + 1, 100));
        }
        due(bench, "proc p loop 3 loop 4 do up; end do grow; end end", SUCCEEDED, 1 + 3 * (1 + 1 + 8 + 1), 12, 4, 15);
        due(bench, "proc p loop 2 loop 0 fail; end loop 1 do up; end end end", SUCCEEDED, 1 + 2 * (1 + 1 + 1 + 2), 2, 1, 2);
        due(bench, "proc p loop 0 fail; end end", SUCCEEDED, 1, 0, 1, 0);
    }

    /** "FAILS if one does (all turns are taken back)". */
    private static void loopTakenBack(Bench bench) {
        due(bench, "proc p loop 3 do low; end end", SUCCEEDED, 7, 3, 1, 3);
        due(bench, "proc p loop 4 do low; end end", FAILED, 9, 0, 1, 0);
        due(bench, "proc p do grow; try loop 4 do low; do grow; end then else do up; end end", SUCCEEDED, 1 + 2 + 3 * 3 + 2 + 1, 1, 2, 2);
        due(bench, "proc p loop 1 fail; end end", FAILED, 3, 0, 1, 0);
        due(bench, "proc p while loop 2 do low; end end end", SUCCEEDED, 1 + 1 + 5 + 1 + 5, 2, 1, 2);
    }

    /** "try: its first row; if that SUCCEEDS the one behind then, else the one behind else". */
    private static void tries(Bench bench) {
        due(bench, "proc p try do up; then do grow; else do up; do up; end end", SUCCEEDED, 3, 1, 2, 2);
        due(bench, "proc p try do up; fail; then do grow; else do up; do up; end end", SUCCEEDED, 5, 2, 1, 2);
        // Where the second row fails the try fails, and what the first one did is taken back too.
        due(bench, "proc p do up; try do up; then do up; fail; else do grow; end do up; end", FAILED, 5, 0, 1, 0);
        due(bench, "proc p do up; try try do up; then do up; fail; else do grow; end then else do grow; end end", SUCCEEDED, 7, 1, 2, 2);
        due(bench, "proc p try fail; then else do up; fail; end end", FAILED, 4, 0, 1, 0);
        due(bench, "proc p try try fail; then else do up; fail; end then else do grow; end end", SUCCEEDED, 6, 0, 2, 1);
        due(bench, "proc p try do burst; then else do grow; end end", BROKEN, 2, 0, 1, 0);
        due(bench, "proc p try do up; then do burst; else do grow; end end", BROKEN, 3, 1, 1, 1);
    }

    /** Eight whiles, loops or trys open at once, in each of a try's rows, and what stands in the innermost. */
    private static void eightDeep(Bench bench) {
        due(bench, "proc p " + "loop 1 ".repeat(8) + "do up; " + "end ".repeat(8) + "end", SUCCEEDED, 17, 1, 1, 1);
        due(bench, "proc p " + "loop 2 ".repeat(6) + "do up; " + "end ".repeat(6) + "end", SUCCEEDED,
            1 + 2 * (2 + 4 + 8 + 16 + 32) + 64 + 64, 64, 1, 64);
        // The innermost one takes nine steps; each around it three, and those of one more turn that does nothing.
        int steps = 9;
        for (int around = 1; around < 8; around++) {
            steps += 3 + 2 * around + 1;
        }
        due(bench, "proc p " + "while ".repeat(8) + "do low; " + "end ".repeat(8) + "end", SUCCEEDED, steps, 3, 1, 3);
        String[] open = {"try ", "try then ", "try fail; then else "};
        String[] close = {"then else fail; end ", "else fail; end ", "end "};
        for (int i = 0; i < 3; i++) {
            String procs = "proc p " + open[i].repeat(8) + "do up; " + close[i].repeat(8) + "do up; end";
            due(bench, procs, SUCCEEDED, i == 2 ? 18 : 10, 2, 1, 2);
            procs = "proc p " + open[i].repeat(8) + "do up; do never; " + close[i].repeat(8) + "do up; end";
            // Where the first row fails, the one behind else does; where another one does, the try fails.
            due(bench, procs, FAILED, i == 1 ? 10 : 18, 0, 1, 0);
        }
        // The inner while takes 25 steps with its three turns and one that fails, and 7 with that one alone.
        String mixed = "while try loop 2 try then while try fail; then else loop 1 ";
        due(bench, "proc p " + mixed + "do low; end end end else end end then else end end end", SUCCEEDED,
            1 + (3 + 2 + 25 + 2 + 7) + (3 + 2 + 7 + 2 + 7), 3, 1, 3);
    }

    /** "1 SUCCEEDED. 2 FAILED (all is taken back). 3 BROKEN: ... (that alone is not done; all else stays)". */
    private static void howItEnds(Bench bench) {
        RewriteDesk desk = desk(bench, "proc p do up; do up; end proc q do up; do up; fail; end proc r do up; try do up; do burst; then else end end");
        bench.due("count(8) at first", desk.count(8), 0);
        desk.apply(2);
        bench.due("count(8) behind apply()", desk.count(8), 0);
        int[] ended = {SUCCEEDED, FAILED, BROKEN, FAILED, SUCCEEDED};
        int[] procs = {0, 1, 2, 1, 0};
        int[] numbers = {2, 2, 4, 4, 6};
        for (int i = 0; i < 5; i++) {
            desk.begin(procs[i]);
            bench.due("count(8) as it goes on", desk.count(8), GOES_ON);
            bench.due("no step", desk.count(7), 0);
            bench.due("run(40)", desk.run(40), ended[i]);
            bench.due("count(8) behind it", desk.count(8), ended[i]);
            bench.due("the number", desk.nodeOf(0, 1), numbers[i]);
            bench.due("the applications", desk.count(6), 1 + numbers[i]);
        }
        bench.due("undo(6)", desk.undo(6), true);
        bench.due("count(8) behind undo()", desk.count(8), SUCCEEDED);
        bench.due("the number", desk.nodeOf(0, 1), 0);
        bench.due("the node of apply()", desk.count(0), 2);
        bench.due("undo(1)", desk.undo(1), true);
        bench.due("undo(1) of none", desk.undo(1), false);
        bench.due("all is as at first", desk.count(0), 1);
    }

    /** A BROKEN one ends the run whatever stands around it. */
    private static void brokenAtOnce(Bench bench) {
        String[] rows = {"do burst;", "all burst;", "any burst;", "any never, burst, up;", "try do burst; then else end", "while do burst; end",
            "loop 3 do burst; end", "call q;", "try fail; then else do burst; end", "try then all burst; else end"};
        for (String row : rows) {
            RewriteDesk desk = desk(bench, "proc p do up; " + row + " do up; end proc q do burst; end");
            bench.due("the end of " + row, end(desk, 0), BROKEN);
            bench.due("all else stays, " + row, desk.nodeOf(0, 1), 1);
            bench.due("and is kept, " + row, desk.count(6), 1);
            bench.due("nothing is open, " + row, desk.count(10), 0);
            bench.due("node(0) is not refused, " + row, desk.node(0), 1);
        }
    }

    /** "are kept, the latest 100". */
    private static void hundredKept(Bench bench) {
        for (int many = 98; many <= 103; many++) {
            RewriteDesk desk = desk(bench, "");
            for (int i = 0; i < many; i++) {
                desk.apply(0);
            }
            int kept = Math.min(many, 100);
            bench.due("count(6) of " + many, desk.count(6), kept);
            bench.due("undo of one more", desk.undo(kept + 1), false);
            bench.due("the number stays", desk.nodeOf(0, 1), many);
            bench.due("undo of all", desk.undo(kept), true);
            bench.due("the number then", desk.nodeOf(0, 1), many - kept);
            bench.due("count(6) then", desk.count(6), 0);
            bench.due("undo(1) of none", desk.undo(1), false);
            bench.due("apply(0)", desk.apply(0), 1);
            bench.due("count(6) of one", desk.count(6), 1);
        }
        // What is not done is no application: none is pushed out by it.
        RewriteDesk desk = desk(bench, "");
        for (int i = 0; i < 100; i++) {
            desk.apply(0);
        }
        for (int i = 0; i < 3; i++) {
            bench.due("apply() without a match", desk.apply(5), 0);
            bench.due("apply() that is broken", desk.apply(6), -3);
        }
        bench.due("undo(100)", desk.undo(100), true);
        bench.due("the number then", desk.nodeOf(0, 1), 0);
    }

    /** The same of a run's, with its loops and calls. */
    private static void hundredInARun(Bench bench) {
        for (int many = 98; many <= 103; many++) {
            int rest = many - 98;
            RewriteDesk desk = desk(bench, "proc p loop 98 do up; end loop " + rest + " call q; end end proc q do up; end");
            bench.due("the end", end(desk, 0), SUCCEEDED);
            bench.due("count(6) of " + many, desk.count(6), Math.min(many, 100));
            bench.due("undo(101)", desk.undo(101), false);
            bench.due("undo(98)", desk.undo(98), true);
            bench.due("the number then", desk.nodeOf(0, 1), rest);
            bench.due("count(6) then", desk.count(6), Math.min(rest, 2));
        }
    }

    /** "one that was pushed out comes no more, if later ones are taken back": by undo(). */
    private static void pushedOut(Bench bench) {
        RewriteDesk desk = desk(bench, "");
        int[] dos = {100, 1, 0, 50};
        int[] undos = {0, 1, 49, 100};
        int[] kept = {100, 99, 50, 0};
        int[] numbers = {100, 100, 51, 1};
        for (int i = 0; i < 4; i++) {
            for (int k = 0; k < dos[i]; k++) {
                desk.apply(0);
            }
            bench.due("undo(" + undos[i] + ")", desk.undo(undos[i]), undos[i] > 0);
            bench.due("count(6)", desk.count(6), kept[i]);
            bench.due("the number", desk.nodeOf(0, 1), numbers[i]);
        }
        bench.due("undo(1) of one pushed out", desk.undo(1), false);
    }

    /** "undo() takes back no others (a RUN does)": a run's taking back takes away no more than it did. */
    private static void pushedOutByARun(Bench bench) {
        String procs = "proc p loop 70 do up; end fail; end proc q try loop 70 do up; end fail; then else end end "
            + "proc r loop 70 do up; end do burst; end";
        for (int ahead : new int[] {0, 29, 30, 31, 60, 100, 110}) {
            for (int proc = 0; proc < 2; proc++) {
                RewriteDesk desk = desk(bench, procs);
                for (int i = 0; i < ahead; i++) {
                    desk.apply(0);
                }
                bench.due("the end, of " + ahead, end(desk, proc), proc == 0 ? FAILED : SUCCEEDED);
                int kept = Math.min(ahead, 30);
                bench.due("the number, of " + ahead, desk.nodeOf(0, 1), ahead);
                bench.due("what is kept, of " + ahead, desk.count(6), kept);
                bench.due("one more", desk.undo(kept + 1), false);
                bench.due("all of it", desk.undo(kept), kept > 0);
                bench.due("the number then", desk.nodeOf(0, 1), ahead - kept);
            }
        }
        RewriteDesk desk = desk(bench, procs);
        for (int i = 0; i < 60; i++) {
            desk.apply(0);
        }
        bench.due("the end", end(desk, 2), BROKEN);
        bench.due("what is kept", desk.count(6), 100);
        bench.due("undo(100)", desk.undo(100), true);
        bench.due("the number", desk.nodeOf(0, 1), 30);
    }

    /** "(A RUN that went on is taken back ahead of it.)" */
    private static void begunAgain(Bench bench) {
        RewriteDesk desk = desk(bench, "proc p loop 80 do up; end end proc q do grow; do grow; end");
        for (int i = 0; i < 60; i++) {
            desk.apply(0);
        }
        desk.begin(0);
        for (int i = 0; i < 3; i++) {
            desk.run(40);
        }
        bench.due("the number in the run", desk.nodeOf(0, 1), 60 + 59);
        bench.due("what is kept in the run", desk.count(6), 100);
        bench.due("begin(2)", desk.begin(2), false);
        bench.due("begin(-1)", desk.begin(-1), false);
        bench.due("nothing happens", desk.nodeOf(0, 1) + desk.count(7), 119 + 120);
        bench.due("begin(1)", desk.begin(1), true);
        bench.due("the number", desk.nodeOf(0, 1), 60);
        bench.due("what is kept", desk.count(6), 41);
        bench.due("count(7)", desk.count(7), 0);
        bench.due("count(10)", desk.count(10), 1);
        bench.due("run(2)", desk.run(2), SUCCEEDED);
        bench.due("begin(0) behind the end", desk.begin(0), true);
        bench.due("takes nothing back", desk.count(0), 3);
        bench.due("begin(0) ahead of a step", desk.begin(0), true);
        bench.due("takes nothing back", desk.count(0) * 100 + desk.count(6), 343);
        desk.run(40);
        Bench.type(desk, "type a; rule noop end proc z do noop; end");
        bench.due("read()", desk.read(), 0);
        bench.due("no run", desk.count(8) + desk.count(7) + desk.count(10), 0);
        bench.due("run(1)", desk.run(1), NONE);
        bench.due("begin(0) of the new text", desk.begin(0), true);
        bench.due("its diagram stays", desk.count(0), 0);
    }

    private static final String PAIRS = "type a; sort s : a -> a; rule r node x : a; node y : a; if x.0 < y.0; set x.1 = x.1 + 1; set y.1 = y.1 + 10; end "
        + "proc p all r; end";

    /** "are taken, each that shares no NODE with one taken ahead of it". */
    private static void takenByAll(Bench bench) {
        for (int nodes = 1; nodes <= 12; nodes++) {
            RewriteDesk desk = bench.desk(PAIRS);
            for (int i = 0; i < nodes; i++) {
                desk.node(0);
                desk.attribute(i, 0, i);
            }
            desk.begin(0);
            bench.due("all of " + nodes, desk.run(1), nodes > 1 ? SUCCEEDED : FAILED);
            for (int i = 0; i < nodes; i++) {
                // 0 with 1, 2 with 3, and so on; an odd one at the end is left.
                int due = i % 2 == 1 ? 10 : i + 1 < nodes ? 1 : 0;
                bench.due("node " + i + " of " + nodes, desk.nodeOf(i, 2), due);
            }
            bench.due("it is one application", desk.count(6), nodes > 1 ? 1 : 0);
            bench.due("undo(1)", desk.undo(1), nodes > 1);
            bench.due("takes all of it back", desk.nodeOf(0, 2) + desk.nodeOf(1, 2), 0);
        }
    }

    /** The same of rules with one to four nodes, in 1 to 12 of them: as many as fit are taken, each is applied. */
    private static void allOfOneToFour(Bench bench) {
        for (int width = 1; width <= 4; width++) {
            StringBuilder text = new StringBuilder("type a; rule r ");
            for (int i = 0; i < width; i++) {
                text.append("node x").append(i).append(" : a; ");
            }
            for (int i = 0; i < width; i++) {
                text.append("set x").append(i).append(".0 = ").append(i + 1).append("; ");
            }
            for (int nodes = 1; nodes <= 12; nodes++) {
                RewriteDesk desk = bench.desk(text + "end proc p all r; end");
                for (int i = 0; i < nodes; i++) {
                    desk.node(0);
                }
                int taken = nodes / width;
                bench.due("all of " + width + " in " + nodes, end(desk, 0), taken > 0 ? SUCCEEDED : FAILED);
                for (int i = 0; i < nodes; i++) {
                    bench.due("node " + i + " by " + width + " in " + nodes, desk.nodeOf(i, 1), i < taken * width ? i % width + 1 : 0);
                }
                bench.due("applications", desk.count(6), taken > 0 ? 1 : 0);
            }
        }
    }

    /** A rule without nodes has one match, which shares no node with any. */
    private static void allOfNoNodes(Bench bench) {
        RewriteDesk desk = bench.desk("type a; rule r new x : a; new y : a; end rule n node x : a; merge; node y : a; set x.0 = 1; set y.1 = 2; end "
            + "proc p all r; end proc q all n; end");
        for (int i = 1; i <= 6; i++) {
            bench.due("all of a rule without nodes", end(desk, 0), SUCCEEDED);
            bench.due("two nodes more", desk.count(0), 2 * i);
            bench.due("one application more", desk.count(6), i);
        }
        bench.due("a 13th node", end(desk, 0), BROKEN);
        bench.due("is not there", desk.count(0), 12);
        // By merge each node is a match by itself, ahead of those with another one.
        bench.due("all of a merged rule", end(desk, 1), SUCCEEDED);
        for (int k = 0; k < 12; k++) {
            bench.due("node " + k, desk.nodeOf(k, 1) * 10 + desk.nodeOf(k, 2), 12);
        }
    }

    /** "its MATCHES of the DIAGRAM as it is": what it makes itself is none of them. */
    private static void allOfTheDiagramAsItIs(Bench bench) {
        String text = "type a; rule r node x : a; new y : a; set x.0 = 1; end proc p all r; end";
        for (int nodes = 1; nodes <= 12; nodes++) {
            RewriteDesk desk = bench.desk(text);
            for (int i = 0; i < nodes; i++) {
                desk.node(0);
            }
            boolean fits = nodes <= 6;
            bench.due("all of " + nodes, end(desk, 0), fits ? SUCCEEDED : BROKEN);
            bench.due("nodes then", desk.count(0), fits ? 2 * nodes : nodes);
            bench.due("the first", desk.nodeOf(0, 1), fits ? 1 : 0);
            bench.due("the last of the old ones", desk.nodeOf(nodes - 1, 1), fits ? 1 : 0);
            bench.due("the first of the new ones", desk.nodeOf(nodes, 1), 0);
            bench.due("applications", desk.count(6), fits ? 1 : 0);
        }
    }

    /** "then it is APPLIED at each of these, in order, where these NODES are a MATCH still". */
    private static void stillAMatch(Bench bench) {
        // A node of type c forbids all: the first match that makes one leaves no other.
        RewriteDesk desk = bench.desk("type a; type b; type c; "
            + "rule free node x : a; not node n : c; end new y : b; set x.0 = 1; end "
            + "rule once node x : a; not node n : c; end new y : c; set x.0 = 1; end "
            + "proc p all free; end proc q all once; end");
        for (int i = 0; i < 5; i++) {
            desk.node(0);
        }
        bench.due("all of them", end(desk, 0), SUCCEEDED);
        bench.due("each made one", desk.count(0), 10);
        bench.due("undo(1)", desk.undo(1), true);
        bench.due("only the first is one still", end(desk, 1), SUCCEEDED);
        bench.due("one was made", desk.count(0), 6);
        for (int k = 0; k < 5; k++) {
            bench.due("node " + k, desk.nodeOf(k, 1), k == 0 ? 1 : 0);
        }
        bench.due("none is a match now", end(desk, 1), FAILED);
        bench.due("one application", desk.count(6), 1);
        bench.due("undo(1)", desk.undo(1), true);
        bench.due("count(0)", desk.count(0), 5);

        // A node that has gone leaves its number to a new one, which is in no match that was taken.
        RewriteDesk gone = bench.desk("type a; type b of a; rule r node x : a; del x; new y : b; new z : b; end proc p all r; end");
        for (int i = 0; i < 6; i++) {
            gone.node(0);
        }
        bench.due("all of six", end(gone, 0), SUCCEEDED);
        bench.due("twelve are there", gone.count(0), 12);
        for (int k = 0; k < 12; k++) {
            bench.due("node " + k + " is new", gone.nodeOf(k, 0), 1);
        }
        bench.due("all of twelve", end(gone, 0), BROKEN);
        bench.due("twelve are there still", gone.count(0), 12);
    }

    /** "a BROKEN one ends it: what was done of it is taken back, it is BROKEN". */
    private static void brokenAll(Bench bench) {
        String text = "type a; rule r node x : a; if 0 < x.1; set x.0 = x.0 * x.1; end rule up node x : a; set x.1 = x.1 + 1; end proc p do up; all r; do up; end";
        for (int bad = 0; bad < 4; bad++) {
            RewriteDesk desk = bench.desk(text);
            for (int i = 0; i < 4; i++) {
                desk.node(0);
                desk.attribute(i, 0, i == bad ? 1 << 30 : 5);
                desk.attribute(i, 1, i == 0 ? 1 : 2);
            }
            bench.due("the end, bad is " + bad, end(desk, 0), BROKEN);
            for (int i = 0; i < 4; i++) {
                bench.due("node " + i, desk.nodeOf(i, 1), i == bad ? 1 << 30 : 5);
            }
            bench.due("what was done ahead stays", desk.nodeOf(0, 2), 2);
            bench.due("one application", desk.count(6), 1);
            bench.due("two steps", desk.count(7), 2);
            bench.due("undo(1)", desk.undo(1), true);
            bench.due("takes back what was ahead", desk.nodeOf(0, 2), 1);
            bench.due("undo(1) of none", desk.undo(1), false);
        }
    }

    /** "how many PROCS, whiles, loops, trys (a row of which is not through) are open in it (0 if it does not go on)". */
    private static void openOnes(Bench bench) {
        RewriteDesk desk = desk(bench, "proc p call q; do up; end proc q do up; loop 1 try do up; do up; then while do low; do never; end do up; else end do up; end do up; end");
        bench.due("no run", desk.count(10), 0);
        desk.begin(0);
        // call, up, loop, turn, try, up, up (then), while, turn, low, never, up, up, up, up
        int[] due = {2, 2, 3, 3, 4, 4, 4, 5, 5, 4, 3, 2, 1};
        for (int i = 0; i < due.length; i++) {
            bench.due("step " + i, desk.run(1), 0);
            bench.due("open behind step " + i, desk.count(10), due[i]);
        }
        bench.due("the last step", desk.run(1), SUCCEEDED);
        bench.due("none is open", desk.count(10), 0);
    }
}
