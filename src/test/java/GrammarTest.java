import java.util.ArrayList;
import java.util.Arrays;
import java.util.List;
import java.util.regex.Matcher;
import java.util.regex.Pattern;

/**
 * Promises 4 and 5: the grammar of II, word for word as one pattern over the kinds of tokens. Texts with a token
 * more, less or another one must have their SYNTAX fault where the pattern says that no text goes on.
 */
public final class GrammarTest {
    private static final int SYNTAX = 1;
    private static final int ROOM = 2;
    private static final int TEXTS_OF_ONE_DESK = 10;

    private static final String[] TOKENS = {"type", "of", "sort", "rule", "proc", "end", "node", "link", "merge", "not",
        "if", "del", "new", "join", "set", "do", "all", "any", "call", "fail", "while", "loop", "try", "then", "else",
        ":", ";", ".", ",", "=", "==", "!=", "<", "<=", "+", "-", "*", "(", ")", "->", "x", "1"};
    private static final String KINDS = "TOSRPEnkmxfdwjsDAYCFWLthe:;.,=QU<V+-*()GNI";

    // So few of each that one more is not too many: then each fault is one of syntax.
    private static final String[] BASES = {
        "type x ; type x of x ; sort x : x -> x ;",
        "rule x node x : x ; link x : x - x -> x ; merge ; not node x : x ; end end",
        "rule x not link x : x - x -> x ; end end rule x merge ; not end end",
        "rule x if x . 1 == - 1 + ( x . 1 * 1 ) - 1 ; if 1 != 1 ; end rule x if 1 < 1 ; if ( - 1 ) <= 1 ; end",
        "rule x del x ; new x : x ; join x - x -> x ; set x . 1 = - x . 1 * ( 1 - 1 ) ; end rule x end",
        "proc x do x ; all x ; any x ; any x , x , x ; call x ; fail ; end proc x end",
        "proc x while do x ; end loop 1 fail ; end try do x ; then while end else loop 1 end call x ; end end"
    };

    public static void main(String[] args) {
        Bench bench = new Bench("GrammarTest");
        new GrammarTest(bench).all();
        bench.close();
    }

    private final Bench bench;
    private final Pattern grammar = Pattern.compile(text());
    private RewriteDesk desk;
    private int texts;

    private GrammarTest(Bench bench) {
        this.bench = bench;
    }

    private static String sum(int depth) {
        String unit = depth == 0 ? "(?:I|N\\.I)" : "(?:I|N\\.I|\\(" + sum(depth - 1) + "\\))";
        String part = unit + "(?:\\*" + unit + ")*";
        return "-?" + part + "(?:[+-]" + part + ")*";
    }

    private static String row(int depth) {
        String simple = "DN;|AN;|YN(?:,N)*;|CN;|F;";
        if (depth == 0) {
            return "(?:" + simple + ")*";
        }
        String row = row(depth - 1);
        return "(?:" + simple + "|W" + row + "E|LI" + row + "E|t" + row + "h" + row + "e" + row + "E)*";
    }

    private static String text() {
        String e = sum(3);
        String left = "nN:N;|kN:N-NGN;";
        String rule = "RN(?:" + left + "|m;)*(?:x(?:" + left + ")*E)*(?:f" + e + "[QU<V]" + e + ";)*"
            + "(?:dN;|wN:N;|jN-NGN;|sN\\.I=" + e + ";)*E";
        return "(?:TN(?:ON)?;|SN:NGN;|" + rule + "|PN" + row(4) + "E)*";
    }

    private void all() {
        for (String base : BASES) {
            List<String> tokens = new ArrayList<>(Arrays.asList(base.split(" ")));
            due(tokens);
            for (int i = 0; i <= tokens.size(); i++) {
                for (String other : TOKENS) {
                    List<String> more = new ArrayList<>(tokens);
                    more.add(i, other);
                    due(more);
                    if (i < tokens.size()) {
                        List<String> changed = new ArrayList<>(tokens);
                        changed.set(i, other);
                        due(changed);
                    }
                }
                if (i < tokens.size()) {
                    List<String> less = new ArrayList<>(tokens);
                    less.remove(i);
                    due(less);
                    due(tokens.subList(0, i));
                }
            }
        }
    }

    /** The first token with which no text goes on; as many as there are if it is the text's end; -1 if none is. */
    private int wrongToken(List<String> tokens) {
        StringBuilder kinds = new StringBuilder();
        for (String token : tokens) {
            kinds.append(KINDS.charAt(Arrays.asList(TOKENS).indexOf(token)));
        }
        if (grammar.matcher(kinds).matches()) {
            return -1;
        }
        for (int i = 0; i < kinds.length(); i++) {
            Matcher ahead = grammar.matcher(kinds.substring(0, i + 1));
            if (!ahead.matches() && !ahead.hitEnd()) {
                return i;
            }
        }
        return kinds.length();
    }

    private void due(List<String> tokens) {
        int wrong = wrongToken(tokens);
        StringBuilder text = new StringBuilder();
        int place = RewriteDesk.NONE;
        for (int i = 0; i < tokens.size(); i++) {
            text.append(i == 0 ? "" : " ");
            place = i == wrong ? text.length() : place;
            text.append(tokens.get(i));
        }
        place = wrong == tokens.size() ? text.length() : place;
        if (texts % TEXTS_OF_ONE_DESK == 0) {
            desk = new RewriteDesk();
        }
        texts++;
        Bench.type(desk, text.toString());
        int fault = desk.read();
        if (wrong == -1) {
            bench.due("no fault of syntax or room in " + text, fault == SYNTAX || fault == ROOM, false);
        } else {
            bench.due("read() of " + text, fault, SYNTAX);
            bench.due("place() of " + text, desk.place(), place);
        }
    }
}
