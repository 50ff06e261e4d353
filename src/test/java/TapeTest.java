/** Promises 1 to 3: a new object, feed, back. */
public final class TapeTest {
    private static final int NONE = RewriteDesk.NONE;

    public static void main(String[] args) {
        Bench bench = new Bench("TapeTest");
        aNewObject(bench);
        feeding(bench);
        twentyBytes(bench);
        takingBack(bench);
        emptyThen(bench);
        bench.close();
    }

    private static void aNewObject(Bench bench) {
        RewriteDesk desk = new RewriteDesk();
        bench.due("NONE", NONE, -1);
        for (int what = 0; what <= 10; what++) {
            bench.due("count(" + what + ") of a new one", desk.count(what), 0);
        }
        bench.due("place() of a new one", desk.place(), NONE);
        bench.due("node(0) of a new one", desk.node(0), NONE);
        bench.due("link(0, 0, 0) of a new one", desk.link(0, 0, 0), NONE);
        bench.due("matches(0) of a new one", desk.matches(0), NONE);
        bench.due("match(0, 0) of a new one", desk.match(0, 0), false);
        bench.due("image(0, false) of a new one", desk.image(0, false), NONE);
        bench.due("image(0, true) of a new one", desk.image(0, true), NONE);
        bench.due("apply(0) of a new one", desk.apply(0), NONE);
        bench.due("begin(0) of a new one", desk.begin(0), false);
        bench.due("run(1) of a new one", desk.run(1), NONE);
        bench.due("undo(1) of a new one", desk.undo(1), false);
        bench.due("same(0) of a new one", desk.same(0), NONE);
        bench.due("keep(0) of a new one", desk.keep(0), true);
        bench.due("same(0) of two empty ones", desk.same(0), 1);
        bench.due("read() of an empty tape", desk.read(), 0);
        bench.due("same(0) behind read()", desk.same(0), NONE);
    }

    private static void feeding(Bench bench) {
        RewriteDesk desk = new RewriteDesk();
        for (int i = 1; i <= 200; i++) {
            bench.due("feed " + i, desk.feed(0x20202020, 0x20202020, 0x20202020, 0x20202020, 0x20202020), 20 * i);
        }
        bench.due("feed of a full tape", desk.feed(0, 0, 0, 0, 0), NONE);
        bench.due("count(9)", desk.count(9), 4000);
        bench.due("back(19)", desk.back(19), 3981);
        bench.due("feed without room for all", desk.feed(0, 0, 0, 0, 0), NONE);
        bench.due("count(9) behind it", desk.count(9), 3981);
        bench.due("back(1)", desk.back(1), 3980);
        bench.due("feed that just fits", desk.feed(0x20202020, 0x20202020, 0x20202020, 0x20202020, 0x2020203B), 4000);
        bench.due("read()", desk.read(), 1);
        bench.due("the last byte is the fault", desk.place(), 3999);
        bench.due("the tape is empty then", desk.count(9), 0);

        // The highest byte of the first int comes first: "type a;" and then a byte that is no token.
        desk.feed(0x74797065, 0x20613B20, 0x20202020, 0x2020FF20, 0x20202020);
        bench.due("read()", desk.read(), 1);
        bench.due("place()", desk.place(), 14);
        desk.feed(0x74797065, 0x20613B20, 0x20202020, 0x20202020, 0x20202000);
        bench.due("read()", desk.read(), 1);
        bench.due("place() of a byte 0", desk.place(), 19);
    }

    /** "Twenty bytes, the highest of a first": a byte that is no token, in each place, alone and with its sign bit. */
    private static void twentyBytes(Bench bench) {
        for (int i = 0; i < 20; i++) {
            for (int b : new int[] {'?', 128, 255}) {
                int[] words = {0x20202020, 0x20202020, 0x20202020, 0x20202020, 0x20202020};
                int shift = 24 - 8 * (i % 4);
                words[i / 4] = words[i / 4] & ~(255 << shift) | b << shift;
                RewriteDesk desk = new RewriteDesk();
                Bench.type(desk, "type a;");
                bench.due("feed", desk.feed(words[0], words[1], words[2], words[3], words[4]), 27);
                bench.due("read()", desk.read(), 1);
                bench.due("place() of byte " + i, desk.place(), 7 + i);
            }
        }
    }

    /** "The tape, which is empty then": with a fault and without; what comes behind it begins a new text. */
    private static void emptyThen(Bench bench) {
        RewriteDesk desk = new RewriteDesk();
        String[] texts = {"type a; type b;", "type", "type a; type a;", "", "type c;", "?", " "};
        int[] faults = {0, 1, 3, 0, 0, 1, 0};
        int[] places = {NONE, 4, 13, NONE, NONE, 0, NONE};
        int[] types = {2, 2, 2, 0, 1, 1, 0};
        for (int i = 0; i < texts.length; i++) {
            Bench.type(desk, texts[i]);
            bench.due("place() is the latest read()'s", desk.place(), i == 0 ? NONE : places[i - 1]);
            bench.due("count(9) of " + texts[i], desk.count(9), texts[i].length());
            bench.due("read() of " + texts[i], desk.read(), faults[i]);
            bench.due("place() of " + texts[i], desk.place(), places[i]);
            bench.due("count(9) behind " + texts[i], desk.count(9), 0);
            bench.due("back(1) behind " + texts[i], desk.back(1), NONE);
            bench.due("count(2) behind " + texts[i], desk.count(2), types[i]);
        }
    }

    private static void takingBack(Bench bench) {
        RewriteDesk desk = new RewriteDesk();
        bench.due("back(0) of an empty tape", desk.back(0), 0);
        bench.due("back(1) of an empty tape", desk.back(1), NONE);
        Bench.type(desk, "type a; type b; type c;");
        bench.due("count(9)", desk.count(9), 23);
        bench.due("back(-1)", desk.back(-1), NONE);
        bench.due("back(24)", desk.back(24), NONE);
        bench.due("back(least int)", desk.back(Integer.MIN_VALUE), NONE);
        bench.due("back(0)", desk.back(0), 23);
        bench.due("back(8)", desk.back(8), 15);
        bench.due("read()", desk.read(), 0);
        bench.due("two types are left", desk.count(2), 2);
        Bench.type(desk, "type a;");
        bench.due("back of one more than all", desk.back(8), NONE);
        bench.due("back(most)", desk.back(Integer.MAX_VALUE), NONE);
        bench.due("back of all", desk.back(7), 0);
        bench.due("back(0) of an empty tape", desk.back(0), 0);
        for (int i = 0; i < 200; i++) {
            Bench.feed(desk, "");
        }
        bench.due("back(4001) of a full tape", desk.back(4001), NONE);
        bench.due("back(4000) of a full tape", desk.back(4000), 0);
        bench.due("feed of an empty tape", Bench.feed(desk, "type a;"), 20);
    }
}
