import java.util.List;

/**
 * Every short text of the bytes that matter, alone and behind beginnings that come near the limits: the FAULT of it as
 * THE GRAMMAR's TEXT and as a BOOK. What can stand is told in another way than by reading on: a text is whole if it can
 * be made smaller and smaller, piece by piece, to nothing; a byte can stand if what it ends can be made whole.
 */
public final class SmallTexts {
    private static final String GRAMMAR_BYTES = "ac^=_|&,?*();x ";
    private static final String BOOK_BYTES = "ah(); i";
    private static final List<String> GRAMMAR_BEGINNINGS = List.of("", "a=", "^= (b", "a=b;c=", "a=(((((((", "h = ( ( ( ((((( ",
            "a=_,_,_,_,_,_,_", "^=(a|a&a,a?*)&(a*+,", "a=b+++++++++++++++", "b=a,a,a,a,a,a,a,a;b=a,a,a,a,a,a,a",
            "g=((((((((_))))))))|(((((((");
    private static final List<String> BOOK_BEGINNINGS = List.of("", "a(b)", "a(b(c(d(e(f(g", " b ( b ( b ( b (b(b(b(b",
            "a(a(a(a(a(a(a(a()a))))))a(a(a(a(a(a(");
    private static final int BYTES = 4;

    private static ResidualJudge judge = new ResidualJudge();
    private static int calls;
    private static long texts;
    private static int wrong;

    public static void main(String[] args) {
        for (String beginning : GRAMMAR_BEGINNINGS) {
            goOnGrammar(beginning, BYTES);
        }
        for (String beginning : BOOK_BEGINNINGS) {
            goOnBook(beginning, BYTES + 1);
        }
        System.out.println("SmallTexts: " + texts + " texts, " + wrong + " not as due");
        if (wrong != 0) {
            System.exit(1);
        }
    }

    private static void goOnGrammar(String text, int left) {
        due(text, "reads()", isWholeGrammar(text) ? countOf(text, ';') : -10 - text.length());
        for (char c : GRAMMAR_BYTES.toCharArray()) {
            String longer = text + c;
            if (left > 0 && !canStandInGrammar(longer)) {
                due(longer, "reads()", -10 - text.length());
                due(longer + "=(_;", "reads()", -10 - text.length());
            } else if (left > 0) {
                goOnGrammar(longer, left - 1);
            }
        }
    }

    private static void goOnBook(String text, int left) {
        due(text, "judge(4)", isWholeBook(text) ? countOf(text, 'a', 'h') : -10 - text.length());
        for (char c : BOOK_BYTES.toCharArray()) {
            String longer = text + c;
            if (left > 0 && !canStandInBook(longer)) {
                due(longer, "judge(4)", -10 - text.length());
                due(longer + "a()", "judge(4)", -10 - text.length());
            } else if (left > 0) {
                goOnBook(longer, left - 1);
            }
        }
    }

    // ---- what can stand

    /** Whether it is whole, or becomes so by what an ORDER can still want: =, a UNIT, brackets closed, its end. */
    private static boolean canStandInGrammar(String text) {
        if (mostOpen(text) > 8 || mostNodes(text) > 16) {
            return false;
        }
        String closing = "))))))));";
        for (String unit : List.of("", "_", "=_")) {
            for (int i = 0; i < closing.length(); i++) {
                if (isWholeGrammar(text + unit + closing.substring(i))) {
                    return true;
                }
            }
        }
        return isWholeGrammar(text) || isBlank(text);
    }

    private static boolean isBlank(String text) {
        return text.replace(" ", "").isEmpty();
    }

    private static boolean isWholeGrammar(String text) {
        String orders = text.replace(" ", "");
        if (!orders.endsWith(";")) {
            return false;
        }
        for (String order : orders.substring(0, orders.length() - 1).split(";", -1)) {
            if (!order.matches("[a-h^]=.*") || !smallest(order.substring(2)).equals("_")) {
                return false;
            }
        }
        return true;
    }

    private static String smallest(String pattern) {
        String now = pattern.replaceAll("[a-h]", "_");
        for (String before = ""; !now.equals(before);) {
            before = now;
            now = now.replaceAll("\\(_\\)", "_").replaceAll("_[?*+]", "_").replaceAll("_[,&|]_", "_");
        }
        return now;
    }

    private static int mostNodes(String text) {
        int most = 0;
        for (String order : text.split(";")) {
            int equals = order.indexOf('=');
            most = Math.max(most, equals < 0 ? 0 : order.substring(equals).replaceAll("[^a-h_,&|?*+]", "").length());
        }
        return most;
    }

    private static int mostOpen(String text) {
        int most = 0;
        for (int end = 0; end <= text.length(); end++) {
            most = Math.max(most, countOf(text.substring(0, end), '(') - countOf(text.substring(0, end), ')'));
        }
        return most;
    }

    private static boolean canStandInBook(String text) {
        String closing = "))))))))";
        for (int i = 0; i <= closing.length(); i++) {
            if (mostOpen(text) <= 8 && isWholeBook(text + closing.substring(i))) {
                return true;
            }
        }
        return false;
    }

    /** A PART with its brackets closed is made a dot: unlike a letter, it can have no other brackets behind it. */
    private static boolean isWholeBook(String text) {
        String now = text.replace(" ", "");
        for (String before = ""; !now.equals(before);) {
            before = now;
            now = now.replaceAll("[a-h]\\([a-h.]*\\)", ".");
        }
        return now.matches("[a-h.]*");
    }

    private static int countOf(String text, char c) {
        return countOf(text, c, c);
    }

    private static int countOf(String text, char from, char to) {
        return (int) text.chars().filter(c -> c >= from && c <= to).count();
    }

    // ---- asking

    private static void due(String text, String call, int want) {
        if (calls + text.length() + 2 > 512) {
            judge = new ResidualJudge();
            calls = 0;
        }
        judge.clear();
        for (char c : text.toCharArray()) {
            judge.type(c);
        }
        calls += text.length() + 2;
        int got = call.equals("reads()") ? judge.reads() : judge.judge(4);
        texts++;
        if (got != want) {
            wrong++;
            System.out.println("\"" + text + "\": " + call + " answered " + got + ", due is " + want);
        }
    }
}
