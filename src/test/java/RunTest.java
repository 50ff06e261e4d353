/** Promises 17, 18 and 22: begin, run and count; what the dos do (IV of the document). */
public final class RunTest {
    private static final int NONE = RewriteDesk.NONE;
    private static final int SUCCEEDED = 1;
    private static final int FAILED = 2;
    private static final int BROKEN = 3;
    private static final int GOES_ON = 4;

    /** The rules that most of the procs here call: up counts to 3, grow makes a node, and so on. */
    private static final String RULES = "type a; type b; "
        + "rule up node x : a; if x.0 < 3; set x.0 = x.0 + 1; end "
        + "rule grow new z : b; end "
        + "rule noop end "
        + "rule never node x : a; if x.0 < x.0; end "
        + "rule burst node x : a; set x.1 = 999999999 * 3; end "
        + "rule drop node x : b; del x; end ";

    public static void main(String[] args) {
        Bench bench = new Bench("RunTest");
        wrongInputs(bench);
        rows(bench);
        failing(bench);
        anys(bench);
        calls(bench);
        whiles(bench);
        loops(bench);
        tries(bench);
        broken(bench);
        tooManyProcs(bench);
        deepest(bench);
        beginningAgain(bench);
        alls(bench);
        brokenAlls(bench);
        manyApplications(bench);
        counts(bench);
        bench.close();
    }

    /** A desk with a node 0 of type a. */
    private static RewriteDesk desk(Bench bench, String procs) {
        RewriteDesk desk = bench.desk(RULES + procs);
        desk.node(0);
        return desk;
    }

    /** Runs proc 0 to its end: how it ends, how many steps that takes, and what it leaves. */
    private static RewriteDesk due(Bench bench, String procs, int ended, int steps, int nodes, int kept) {
        RewriteDesk desk = desk(bench, procs);
        bench.due("begin(0)", desk.begin(0), true);
        int answer = 0;
        for (int i = 0; i < 300 && answer == 0; i++) {
            answer = desk.run(7);
        }
        bench.due("run() of " + procs, answer, ended);
        bench.due("count(8) of " + procs, desk.count(8), ended);
        bench.due("count(7) of " + procs, desk.count(7), steps);
        bench.due("count(0) of " + procs, desk.count(0), nodes);
        bench.due("count(6) of " + procs, desk.count(6), kept);
        bench.due("count(10) of " + procs, desk.count(10), 0);
        bench.due("run() behind the end of " + procs, desk.run(1), NONE);
        return desk;
    }

    /** Runs proc 0 a step at a time: how much is open behind each step that it goes on from. */
    private static void open(Bench bench, String procs, int ended, int... open) {
        RewriteDesk desk = desk(bench, procs);
        desk.begin(0);
        bench.due("count(10) at first", desk.count(10), 1);
        for (int i = 0; i < open.length; i++) {
            bench.due("step " + i + " of " + procs, desk.run(1), 0);
            bench.due("count(10) behind step " + i + " of " + procs, desk.count(10), open[i]);
            bench.due("count(7) behind step " + i + " of " + procs, desk.count(7), i + 1);
        }
        bench.due("the last step of " + procs, desk.run(1), ended);
    }

    private static void wrongInputs(Bench bench) {
        RewriteDesk desk = desk(bench, "proc p do noop; end proc q end");
        bench.due("run(1) without a run", desk.run(1), NONE);
        bench.due("begin(-1)", desk.begin(-1), false);
        bench.due("begin(2)", desk.begin(2), false);
        bench.due("count(8)", desk.count(8), 0);
        bench.due("begin(0)", desk.begin(0), true);
        bench.due("begin(2) in a run", desk.begin(2), false);
        bench.due("count(8)", desk.count(8), GOES_ON);
        bench.due("run(0)", desk.run(0), NONE);
        bench.due("run(-1)", desk.run(-1), NONE);
        bench.due("run(41)", desk.run(41), NONE);
        bench.due("count(7)", desk.count(7), 0);
        bench.due("run(40)", desk.run(40), SUCCEEDED);
        bench.due("count(7)", desk.count(7), 1);
        bench.due("begin(1) of an empty row", desk.begin(1), true);
        bench.due("count(8)", desk.count(8), GOES_ON);
        bench.due("run(1)", desk.run(1), SUCCEEDED);
        bench.due("count(7)", desk.count(7), 0);
    }

    private static void rows(Bench bench) {
        due(bench, "proc p do grow; do up; do grow; end", SUCCEEDED, 3, 3, 3);
        due(bench, "proc p do grow; do never; do grow; end", FAILED, 2, 1, 0);
        due(bench, "proc p all grow; all noop; end", SUCCEEDED, 2, 2, 2);
        due(bench, "proc p do grow; all never; end", FAILED, 2, 1, 0);
        RewriteDesk desk = desk(bench, "proc p do grow; do grow; do grow; end");
        desk.begin(0);
        bench.due("run(1)", desk.run(1), 0);
        bench.due("count(0)", desk.count(0), 2);
        bench.due("run(1)", desk.run(1), 0);
        bench.due("count(6)", desk.count(6), 2);
        bench.due("run(1), which is the last", desk.run(1), SUCCEEDED);
    }

    private static void failing(Bench bench) {
        due(bench, "proc p do grow; fail; do grow; end", FAILED, 2, 1, 0);
        RewriteDesk desk = desk(bench, "proc p do grow; do up; fail; end");
        desk.apply(0);
        desk.begin(0);
        bench.due("run(2)", desk.run(2), 0);
        bench.due("count(6)", desk.count(6), 3);
        bench.due("the number", desk.nodeOf(0, 1), 2);
        bench.due("run(1)", desk.run(1), FAILED);
        bench.due("what was done ahead stays", desk.nodeOf(0, 1), 1);
        bench.due("and is kept", desk.count(6), 1);
        bench.due("undo(1)", desk.undo(1), true);
        bench.due("the number", desk.nodeOf(0, 1), 0);

        // What a try and a while take back is not taken back once more.
        RewriteDesk twice = desk(bench, "proc p try do grow; fail; then else do grow; end while do grow; fail; end do grow; fail; end");
        for (int i = 0; i < 5; i++) {
            twice.apply(1);
        }
        twice.undo(1);
        twice.begin(0);
        bench.due("run(8)", twice.run(8), 0);
        bench.due("count(6)", twice.count(6), 5);
        bench.due("run(1)", twice.run(1), 0);
        bench.due("count(6)", twice.count(6), 6);
        bench.due("run(1)", twice.run(1), FAILED);
        bench.due("count(6)", twice.count(6), 4);
        bench.due("count(0)", twice.count(0), 5);
        bench.due("undo(4)", twice.undo(4), true);
        bench.due("count(0)", twice.count(0), 1);
    }

    private static void anys(Bench bench) {
        due(bench, "proc p any grow, up; end", SUCCEEDED, 1, 2, 1);
        due(bench, "proc p any never, never, up, grow; any never, grow; end", SUCCEEDED, 2, 2, 2);
        due(bench, "proc p do grow; any never, never; end", FAILED, 2, 1, 0);
        due(bench, "proc p any never, burst, grow; end", BROKEN, 1, 1, 0);
        due(bench, "proc p any grow, burst; end", SUCCEEDED, 1, 2, 1);
    }

    private static void calls(Bench bench) {
        due(bench, "proc p call q; do grow; end proc q do grow; call r; end proc r do grow; end", SUCCEEDED, 5, 4, 3);
        due(bench, "proc p do grow; call q; do grow; end proc q do grow; fail; end", FAILED, 4, 1, 0);
        due(bench, "proc p call q; call q; call q; end proc q end", SUCCEEDED, 3, 1, 0);
        // A proc whose row is through is open no more, and so are those that this ends.
        open(bench, "proc p call q; do noop; end proc q do noop; call r; end proc r do noop; end", SUCCEEDED, 2, 2, 3, 1);
        open(bench, "proc p call q; call q; do noop; end proc q end", SUCCEEDED, 1, 1);
    }

    private static void whiles(Bench bench) {
        // while, and each turn, is a step: three ups, a fourth that fails.
        RewriteDesk desk = due(bench, "proc p while do up; end end", SUCCEEDED, 1 + 3 * 2 + 2, 1, 3);
        bench.due("the number", desk.nodeOf(0, 1), 3);
        due(bench, "proc p while do grow; do up; end do grow; end", SUCCEEDED, 1 + 3 * 3 + 3 + 1, 5, 7);
        due(bench, "proc p while fail; end do grow; end", SUCCEEDED, 4, 2, 1);
        due(bench, "proc p while end do grow; end", SUCCEEDED, 3, 2, 1);
        due(bench, "proc p while while do up; end end end", SUCCEEDED, 1 + 10 + 4, 1, 3);
        // A turn that succeeds without an application is the last one; one with an empty rule's is not.
        due(bench, "proc p while try do never; then else end end end", SUCCEEDED, 4, 1, 0);
        due(bench, "proc p while do noop; do up; end end", SUCCEEDED, 1 + 3 * 3 + 3, 1, 6);
        open(bench, "proc p while do up; end do noop; end", SUCCEEDED, 2, 2, 2, 2, 2, 2, 2, 2, 1);
        open(bench, "proc p while end do noop; end", SUCCEEDED, 2, 1);
    }

    private static void loops(Bench bench) {
        due(bench, "proc p loop 3 do grow; end end", SUCCEEDED, 1 + 3 * 2, 4, 3);
        due(bench, "proc p loop 0 do grow; end do grow; end", SUCCEEDED, 2, 2, 1);
        due(bench, "proc p loop 4 do grow; do up; end end", FAILED, 1 + 3 * 3 + 3, 1, 0);
        due(bench, "proc p try loop 4 do grow; do up; end then else do grow; end end", SUCCEEDED, 15, 2, 1);
        due(bench, "proc p loop 100 end end", SUCCEEDED, 101, 1, 0);
        due(bench, "proc p loop 2 loop 3 do noop; end end end", SUCCEEDED, 1 + 2 * (1 + 1 + 6), 1, 6);
        open(bench, "proc p loop 2 do noop; end do noop; end", SUCCEEDED, 2, 2, 2, 2, 1);
        open(bench, "proc p loop 0 end do noop; end", SUCCEEDED, 1);
    }

    private static void tries(Bench bench) {
        due(bench, "proc p try do grow; then do grow; else fail; end end", SUCCEEDED, 3, 3, 2);
        due(bench, "proc p try do grow; do never; then fail; else do up; end end", SUCCEEDED, 4, 1, 1);
        due(bench, "proc p try do grow; then do grow; fail; else do grow; end end", FAILED, 4, 1, 0);
        due(bench, "proc p try fail; then else do grow; fail; end end", FAILED, 4, 1, 0);
        due(bench, "proc p try then else fail; end do grow; end", SUCCEEDED, 2, 2, 1);
        due(bench, "proc p try try fail; then else fail; end then do grow; else do grow; do grow; end end", SUCCEEDED, 6, 3, 2);
        due(bench, "proc p do grow; try do grow; call q; then else do up; end end proc q do grow; fail; end", SUCCEEDED, 7, 2, 2);
        open(bench, "proc p try do noop; then do noop; do noop; else end do noop; end", SUCCEEDED, 2, 2, 2, 1);
        open(bench, "proc p try call q; then else do noop; do noop; end do noop; end proc q fail; end", SUCCEEDED, 2, 3, 2, 2, 1);
        open(bench, "proc p try do noop; then else end do noop; end", SUCCEEDED, 2, 1);
    }

    private static void broken(Bench bench) {
        due(bench, "proc p do grow; try do grow; do burst; then else do grow; end do grow; end", BROKEN, 4, 3, 2);
        due(bench, "proc p while do grow; end end", BROKEN, 1 + 12 * 2, 12, 11);
        due(bench, "proc p do grow; all burst; end", BROKEN, 2, 2, 1);
    }

    private static void tooManyProcs(Bench bench) {
        due(bench, "proc p do up; call q; end proc q call q; end", BROKEN, 1 + 20, 1, 1);
        RewriteDesk again = due(bench, "proc p call p; end", BROKEN, 20, 1, 0);
        again.begin(0);
        bench.due("run(19) once more", again.run(19), 0);
        bench.due("count(10)", again.count(10), 20);
        bench.due("run(1)", again.run(1), BROKEN);
        due(bench, "proc p loop 25 call q; end end proc q end", SUCCEEDED, 1 + 25 * 2, 1, 0);
        due(bench, "proc p while end loop 0 end try then else end call p; end", BROKEN, 20 * 5, 1, 0);
        due(bench, "proc p loop 25 try call q; then else end end end proc q fail; end", SUCCEEDED, 1 + 25 * 4, 1, 0);
        // Twenty may be open: this one's calls end at the 20th, which fails, and is caught at the first.
        due(bench, "proc p try call q; then else do grow; end end proc q try do up; then call q; else fail; end end",
            SUCCEEDED, 2 + 3 * 3 + 3 + 1, 2, 1);
    }

    /** Frames as deep as there can be: each of 20 procs has eight whiles open. */
    private static void deepest(Bench bench) {
        String row = "while ".repeat(7) + "while call p; end " + "end ".repeat(7);
        RewriteDesk desk = desk(bench, "proc p " + row + "end");
        desk.begin(0);
        int answer = 0;
        int most = 0;
        for (int i = 0; i < 100 && answer == 0; i++) {
            answer = desk.run(i < 8 ? 40 : 1);
            most = Math.max(most, desk.count(10));
        }
        bench.due("run() to the end", answer, BROKEN);
        bench.due("steps", desk.count(7), 20 * 17);
        bench.due("open", most, 20 * 9);
    }

    private static void beginningAgain(Bench bench) {
        RewriteDesk desk = desk(bench, "proc p do up; do grow; do grow; end");
        desk.apply(0);
        desk.begin(0);
        desk.run(2);
        bench.due("count(0)", desk.count(0), 2);
        bench.due("begin(5)", desk.begin(5), false);
        bench.due("does nothing", desk.count(0), 2);
        bench.due("begin(0)", desk.begin(0), true);
        bench.due("the run that went on is taken back", desk.count(0), 1);
        bench.due("all of it", desk.nodeOf(0, 1), 1);
        bench.due("and none of it is kept", desk.count(6), 1);
        bench.due("count(7)", desk.count(7), 0);
        bench.due("run(40)", desk.run(40), SUCCEEDED);
        bench.due("begin(0) behind its end", desk.begin(0), true);
        bench.due("what ended stays", desk.count(0), 3);
        bench.due("count(6)", desk.count(6), 4);
    }

    private static void alls(Bench bench) {
        String head = "type a; sort s : a -> a; ";
        // 0-1 and 2-3 are taken; 1-2 shares a node with the first.
        RewriteDesk desk = bench.desk(head + "rule r node x : a; node y : a; link l : x - s -> y; "
            + "del l; set x.0 = x.0 + 1; set y.1 = y.1 + 1; end proc p all r; end proc q all r; end");
        for (int i = 0; i < 4; i++) {
            desk.node(0);
        }
        for (int i = 0; i < 3; i++) {
            desk.link(0, i, i + 1);
        }
        desk.begin(0);
        bench.due("run(1)", desk.run(1), SUCCEEDED);
        bench.due("one link is left", desk.count(1), 1);
        bench.due("it is the middle one", desk.linkOf(1, 1), 1);
        bench.due("it is one application", desk.count(6), 1);
        int[] first = {1, 0, 1, 0};
        int[] second = {0, 1, 0, 1};
        for (int k = 0; k < 4; k++) {
            bench.due("nodeOf(" + k + ", 1)", desk.nodeOf(k, 1), first[k]);
            bench.due("nodeOf(" + k + ", 2)", desk.nodeOf(k, 2), second[k]);
        }
        bench.due("undo(1)", desk.undo(1), true);
        bench.due("count(1)", desk.count(1), 3);

        // Those that are a match no more are left out: a node of number 1 is to be there only once.
        RewriteDesk left = bench.desk(head + "rule r node x : a; not node n : a; link l : n - s -> n; end "
            + "join x - s -> x; end proc p all r; end");
        left.node(0);
        left.node(0);
        left.begin(0);
        bench.due("run(1)", left.run(1), SUCCEEDED);
        bench.due("only the first", left.count(1), 1);
        bench.due("its node", left.linkOf(0, 1), 0);

        // Deleted nodes' numbers are free for those that come behind in the same all.
        RewriteDesk again = bench.desk("type a; type b; rule r node x : a; del x; new y : b; end proc p all r; end");
        for (int i = 0; i < 12; i++) {
            again.node(0);
        }
        again.begin(0);
        bench.due("run(1)", again.run(1), SUCCEEDED);
        bench.due("all are there", again.count(0), 12);
        bench.due("the last is new", again.nodeOf(11, 0), 1);
        bench.due("none is left", again.matches(0), 0);
    }

    private static void brokenAlls(Bench bench) {
        RewriteDesk desk = bench.desk("type a; rule r node x : a; set x.0 = x.0 * x.0; end rule up node x : a; set x.1 = 1; end "
            + "proc p do up; all r; end");
        desk.node(0);
        desk.node(0);
        desk.attribute(0, 0, 3);
        desk.attribute(1, 0, 46341);
        desk.begin(0);
        bench.due("run(2)", desk.run(2), BROKEN);
        bench.due("what was done of it is taken back", desk.nodeOf(0, 1), 3);
        bench.due("what was done ahead stays", desk.nodeOf(0, 2), 1);
        bench.due("count(6)", desk.count(6), 1);
    }

    private static void manyApplications(Bench bench) {
        String rules = "type a; rule up node x : a; set x.0 = x.0 + 1; end ";
        RewriteDesk desk = bench.desk(rules + "proc p loop 2 loop 60 do up; end end fail; end proc q loop 60 do up; end end");
        desk.node(0);
        desk.apply(0);
        desk.apply(0);
        desk.begin(0);
        int answer = 0;
        for (int i = 0; i < 20 && answer == 0; i++) {
            answer = desk.run(40);
            bench.due("count(6) is 100 at most", desk.count(6) <= 100, true);
        }
        bench.due("run() to the end", answer, FAILED);
        bench.due("a run takes back more than are kept", desk.nodeOf(0, 1), 2);
        bench.due("those that were pushed out come no more", desk.count(6), 0);
        for (int turn = 0; turn < 2; turn++) {
            desk.begin(1);
            for (int i = 0; i < 4; i++) {
                desk.run(40);
            }
        }
        bench.due("count(6)", desk.count(6), 100);
        bench.due("undo(100)", desk.undo(100), true);
        bench.due("the number", desk.nodeOf(0, 1), 22);
    }

    private static void counts(Bench bench) {
        RewriteDesk desk = bench.desk("type a; type b; type c; sort s : a -> a; sort t : a -> a; "
            + "rule r node x : a; end rule q end rule v end rule w end "
            + "proc p do r; while do r; end end proc o end proc n end proc m end proc l end");
        desk.node(0);
        desk.node(0);
        desk.link(0, 0, 0);
        desk.link(0, 0, 0);
        desk.link(0, 0, 0);
        for (int i = 0; i < 6; i++) {
            desk.apply(0);
        }
        desk.begin(0);
        desk.run(3);
        Bench.type(desk, "type a");
        int[] due = {2, 3, 3, 2, 4, 5, 7, 3, 4, 6, 2};
        for (int what = 0; what < due.length; what++) {
            bench.due("count(" + what + ")", desk.count(what), due[what]);
        }
        bench.due("count(-1)", desk.count(-1), NONE);
        bench.due("count(11)", desk.count(11), NONE);
    }
}
