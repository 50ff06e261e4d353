import java.lang.reflect.Constructor;
import java.lang.reflect.Field;
import java.lang.reflect.Member;
import java.lang.reflect.Method;
import java.lang.reflect.Modifier;
import java.util.ArrayList;
import java.util.Arrays;
import java.util.List;

/** The public face: what the document tells, and no more; and that an object stands by itself. */
public final class FaceTest {
    private static final String[] METHODS = {
        "int feed(int int int int int)", "int back(int)", "int read()", "int place()", "int node(int)",
        "int link(int int int)", "boolean attribute(int int int)", "boolean remove(int)", "boolean cut(int)",
        "int nodeOf(int int)", "int linkOf(int int)", "int matches(int)", "boolean match(int int)",
        "int image(int boolean)", "int apply(int)", "boolean begin(int)", "int run(int)", "boolean undo(int)",
        "boolean keep(int)", "int same(int)", "int count(int)"
    };

    public static void main(String[] args) throws IllegalAccessException {
        Bench bench = new Bench("FaceTest");
        theClass(bench);
        theMembers(bench);
        twoObjects(bench);
        fiveHundredAndTwelveCalls(bench);
        bench.close();
    }

    private static boolean isPrivate(Member member) {
        return Modifier.isPrivate(member.getModifiers());
    }

    private static void theClass(Bench bench) throws IllegalAccessException {
        int modifiers = RewriteDesk.class.getModifiers();
        bench.due("the class is public and final", Modifier.isPublic(modifiers) && Modifier.isFinal(modifiers), true);
        List<Constructor<?>> constructors = new ArrayList<>();
        for (Constructor<?> one : RewriteDesk.class.getDeclaredConstructors()) {
            if (!isPrivate(one) && !one.isSynthetic()) {
                constructors.add(one);
            }
        }
        bench.due("how many constructors", constructors.size(), 1);
        bench.due("its parameters", constructors.get(0).getParameterCount(), 0);
        bench.due("it is public", Modifier.isPublic(constructors.get(0).getModifiers()), true);
        for (Field one : RewriteDesk.class.getDeclaredFields()) {
            if (!isPrivate(one) && !one.isSynthetic()) {
                bench.due("a field is NONE: " + one, one.getName().equals("NONE"), true);
                bench.due("NONE is a constant", one.getModifiers(), Modifier.PUBLIC | Modifier.STATIC | Modifier.FINAL);
                bench.due("NONE is an int", one.getType() == int.class, true);
                bench.due("NONE", one.getInt(null), -1);
            }
        }
    }

    private static void theMembers(Bench bench) {
        List<String> due = new ArrayList<>(Arrays.asList(METHODS));
        for (Method one : RewriteDesk.class.getDeclaredMethods()) {
            if (!isPrivate(one) && !one.isSynthetic()) {
                StringBuilder told = new StringBuilder(one.getReturnType().getName()).append(' ').append(one.getName()).append('(');
                for (int i = 0; i < one.getParameterCount(); i++) {
                    told.append(i == 0 ? "" : " ").append(one.getParameterTypes()[i].getName());
                }
                bench.due("a method of the face: " + one, due.remove(told.append(')').toString()), true);
                bench.due("it is public and of an object: " + one, one.getModifiers(), Modifier.PUBLIC);
            }
        }
        bench.due("methods that are missing: " + due, due.size(), 0);
    }

    /** What is done with one object is not seen in another one. */
    private static void twoObjects(Bench bench) {
        RewriteDesk one = bench.desk("type a; sort s : a -> a; rule r node x : a; end proc p do r; end");
        RewriteDesk two = new RewriteDesk();
        Bench.type(one, "type");
        one.node(0);
        one.link(0, 0, 0);
        one.match(0, 0);
        one.keep(0);
        one.apply(0);
        one.begin(0);
        for (int what = 0; what <= 10; what++) {
            bench.due("count(" + what + ") of the other one", two.count(what), 0);
        }
        bench.due("image() of the other one", two.image(0, false), RewriteDesk.NONE);
        bench.due("same() of the other one", two.same(0), RewriteDesk.NONE);
    }

    /** "An object is used for at most 512 calls": the 512th is answered as the first ones are. */
    private static void fiveHundredAndTwelveCalls(Bench bench) {
        RewriteDesk desk = new RewriteDesk();
        String text = "type a; rule up node x : a; set x.0 = x.0 + 1; end  ";
        for (int at = 0; at + 20 <= text.length(); at += 20) {
            bench.due("feed", Bench.feed(desk, text.substring(at, at + 20)), at + 20);
        }
        bench.due("feed", Bench.feed(desk, text.substring(40) + "        "), 60);
        bench.due("read()", desk.read(), 0);
        bench.due("node(0)", desk.node(0), 0);
        int calls = 5;
        while (calls < 510) {
            bench.due("apply(0), call " + calls, desk.apply(0), 1);
            calls++;
        }
        bench.due("the 511th call", desk.undo(100), true);
        bench.due("the 512th call", desk.nodeOf(0, 1), 505 - 100);
    }
}
