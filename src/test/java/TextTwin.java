import java.util.regex.Matcher;
import java.util.regex.Pattern;

/** A second reader of texts: it reads by a Pattern, reckons while it reads, and throws at a fault. */
final class TextTwin {
    static final String[] NAMES = {"late", "far", "kind", "noise", "drift", "depth"};
    private static final Pattern TOKEN = Pattern.compile("[a-z]+|[0-9]+|[();+*<=-]|[^ \n]");
    private final String text;
    private final int[] values;
    private final Matcher matcher;
    private String token;
    private int place;
    private int open;
    boolean isText;
    int take, call, fault;

    TextTwin(String text, int[] values) {
        this.text = text;
        this.values = values;
        matcher = TOKEN.matcher(text);
        try {
            next();
            need("take");
            take = or();
            need(";");
            need("call");
            call = or();
            need(";");
            need("");
            isText = true;
        } catch (IllegalStateException e) {
            fault = place;
        }
    }

    private void next() {
        boolean is = matcher.find();
        token = is ? matcher.group() : "";
        place = is ? matcher.start() : text.length();
    }

    private void need(String wanted) {
        if (!token.equals(wanted)) {
            throw new IllegalStateException();
        }
        if (!wanted.isEmpty()) {
            next();
        }
    }

    private boolean got(String wanted) {
        boolean is = token.equals(wanted);
        if (is) {
            next();
        }
        return is;
    }

    private void opens() {
        if (open == 5) {
            throw new IllegalStateException();
        }
        open++;
        next();
    }

    private int or() {
        int v = and();
        while (got("or")) {
            int w = and();
            v = v != 0 | w != 0 ? 1 : 0;
        }
        return v;
    }

    private int and() {
        int v = not();
        while (got("and")) {
            int w = not();
            v = v != 0 & w != 0 ? 1 : 0;
        }
        return v;
    }

    private int not() {
        if (token.equals("not")) {
            opens();
            int v = not();
            open--;
            return v == 0 ? 1 : 0;
        }
        int v = sum();
        if (got("<")) {
            return v < sum() ? 1 : 0;
        }
        return got("=") ? (v == sum() ? 1 : 0) : v;
    }

    private int sum() {
        int v = term();
        while (token.equals("+") || token.equals("-")) {
            int sign = token.equals("+") ? 1 : -1;
            next();
            v += sign * term();
        }
        return v;
    }

    private int term() {
        int v = one();
        while (got("*")) {
            v *= one();
        }
        return v;
    }

    private int one() {
        for (int i = 0; i < 6; i++) {
            if (got(NAMES[i])) {
                return values[i];
            }
        }
        if (token.matches("[0-9]{1,4}")) {
            int v = Integer.parseInt(token);
            next();
            return v;
        }
        boolean isMinus = token.equals("-");
        if (!isMinus && !token.equals("(")) {
            throw new IllegalStateException();
        }
        opens();
        int v = isMinus ? -one() : or();
        if (!isMinus) {
            need(")");
        }
        open--;
        return v;
    }
}
