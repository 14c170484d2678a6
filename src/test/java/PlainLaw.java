import java.math.BigInteger;
import java.util.ArrayDeque;
import java.util.ArrayList;
import java.util.List;
import java.util.regex.Matcher;
import java.util.regex.Pattern;

/** A TEXT read in another way than the class does: FAULT by an automaton, answers from the TOKENS themselves. */
final class PlainLaw {
    private record Token(String text, int place) { }

    /** Thrown where a SUM or a TEST is BROKEN. */
    private static final class Broken extends RuntimeException {
        private static final long serialVersionUID = 1L;

        Broken() {
            super(null, null, false, false);
        }
    }

    private static final List<String> PARTS =
            List.of("book", "kind", "worth", "age", "price", "place", "week", "rain", "crowd", "since");

    private final List<List<Token>> clauses = new ArrayList<>();

    /** FAULT of a TEXT, -1 without. */
    static int faultOf(int[] bytes) {
        List<Token> tokens = tokensOf(bytes);
        ArrayDeque<Character> open = new ArrayDeque<>();
        String state = "head";
        int clause = 1;
        int parts = 0;
        int brackets = 0;
        for (Token token : tokens) {
            String text = token.text;
            boolean end = text.isEmpty();
            switch (state) {
                case "head":
                    if (clause > 12 || !List.of("sells", "draws", "wants", "takes").contains(text)) {
                        return token.place;
                    }
                    open.clear();
                    open.push('S');
                    brackets = 0;
                    state = text.equals("takes") ? "taken" : "part";
                    break;
                case "plain":
                case "part":
                    if (state.equals("plain") && text.equals("not")) {
                        break;
                    }
                    if (state.equals("plain") && text.equals("(")) {
                        brackets++;
                        if (brackets > 8) {
                            return token.place;
                        }
                        open.push('(');
                        open.push('l');
                        break;
                    }
                    if (text.equals("[")) {
                        brackets++;
                        if (brackets > 8) {
                            return token.place;
                        }
                        open.push('[');
                        state = "part";
                        break;
                    }
                    boolean number = !end && text.charAt(0) >= '0' && text.charAt(0) <= '9';
                    if (number ? isTooGreat(text) : !PARTS.contains(text)) {
                        return token.place;
                    }
                    parts++;
                    if (parts > 50) {
                        return token.place;
                    }
                    state = "behind part";
                    break;
                default:
                    String next = null;
                    char in = open.peek();
                    boolean part = state.equals("behind part");
                    if (part && List.of("+", "-", "*", "/").contains(text)) {
                        next = "part";
                    } else if (part && text.equals("]") && in == '[') {
                        open.pop();
                        brackets--;
                        next = "behind part";
                    } else if (part && in == 'l' && List.of("<", ">", "=").contains(text)) {
                        open.pop();
                        open.push('r');
                        next = "part";
                    } else if ((in == 'r' || state.equals("closed")) && (text.equals("or") || text.equals("and"))) {
                        open.pop();
                        open.push('l');
                        next = "plain";
                    } else if ((in == 'r' || state.equals("closed")) && text.equals(")") && open.size() > 1) {
                        open.pop();
                        if (open.pop() != '(') {
                            return token.place;
                        }
                        brackets--;
                        next = "closed";
                    } else if (in == 'S' && text.equals("if")) {
                        open.pop();
                        open.push('l');
                        next = "plain";
                    } else if (open.size() == 1 && (in == 'S' || in == 'r' || state.equals("closed")) && text.equals(";")) {
                        clause++;
                        next = "head";
                    } else if (open.size() == 1 && (in == 'S' || in == 'r' || state.equals("closed")) && end) {
                        return -1;
                    }
                    if (next == null) {
                        return token.place;
                    }
                    state = next;
            }
        }
        throw new IllegalStateException("the end is a TOKEN, too");
    }

    private static boolean isTooGreat(String number) {
        return new BigInteger(number).compareTo(BigInteger.valueOf(1000)) > 0;
    }

    private static List<Token> tokensOf(int[] bytes) {
        List<Token> tokens = new ArrayList<>();
        StringBuilder text = new StringBuilder();
        for (int b : bytes) {
            text.append((char) b);
        }
        Matcher found = Pattern.compile("(?s)[a-z]+|[0-9]+|[^ ]").matcher(text);
        while (found.find()) {
            tokens.add(new Token(found.group(), found.start()));
        }
        tokens.add(new Token("", bytes.length));
        return tokens;
    }

    PlainLaw(int[] bytes) {
        List<Token> clause = new ArrayList<>();
        for (Token token : tokensOf(bytes)) {
            if (token.text.equals(";") || token.text.isEmpty()) {
                clauses.add(clause);
                clause = new ArrayList<>();
            } else {
                clause.add(token);
            }
        }
    }

    /** What the last CLAUSE with that HEAD that HOLDS tells, as it stands; null without. */
    Long told(String head, long[] words) {
        Long told = null;
        for (List<Token> clause : clauses) {
            if (clause.get(0).text.equals(head)) {
                Long now = tells(clause, words);
                told = now == null ? told : now;
            }
        }
        return told;
    }

    private static Long tells(List<Token> clause, long[] words) {
        int at = 1;
        while (at < clause.size() && !clause.get(at).text.equals("if")) {
            at++;
        }
        try {
            long sum = at == 1 ? 0 : sum(clause.subList(1, at), words);
            return at == clause.size() || test(clause.subList(at + 1, clause.size()), words) ? sum : null;
        } catch (Broken e) {
            return null;
        }
    }

    /** The place of the sign at which what stands outside brackets is cut: the first or the last one. */
    private static int cut(List<Token> tokens, boolean last, String... signs) {
        int depth = 0;
        int found = -1;
        for (int i = 0; i < tokens.size(); i++) {
            String text = tokens.get(i).text;
            if (text.equals("(") || text.equals("[")) {
                depth++;
            } else if (text.equals(")") || text.equals("]")) {
                depth--;
            } else if (depth == 0 && List.of(signs).contains(text) && (found < 0 || last)) {
                found = i;
            }
        }
        return found;
    }

    private static boolean test(List<Token> tokens, long[] words) {
        int or = cut(tokens, false, "or");
        if (or >= 0) {
            return test(tokens.subList(0, or), words) || test(tokens.subList(or + 1, tokens.size()), words);
        }
        int and = cut(tokens, false, "and");
        if (and >= 0) {
            return test(tokens.subList(0, and), words) && test(tokens.subList(and + 1, tokens.size()), words);
        }
        if (tokens.get(0).text.equals("not")) {
            return !test(tokens.subList(1, tokens.size()), words);
        }
        int sign = cut(tokens, false, "<", ">", "=");
        if (sign < 0) {
            return test(tokens.subList(1, tokens.size() - 1), words);
        }
        long left = sum(tokens.subList(0, sign), words);
        long right = sum(tokens.subList(sign + 1, tokens.size()), words);
        return switch (tokens.get(sign).text) {
            case "<" -> left < right;
            case ">" -> left > right;
            default -> left == right;
        };
    }

    private static long sum(List<Token> tokens, long[] words) {
        int sign = cut(tokens, true, "+", "-");
        if (sign < 0) {
            sign = cut(tokens, true, "*", "/");
        }
        if (sign >= 0) {
            long left = sum(tokens.subList(0, sign), words);
            long right = sum(tokens.subList(sign + 1, tokens.size()), words);
            return whole(tokens.get(sign).text, left, right);
        }
        String text = tokens.get(0).text;
        if (text.equals("[")) {
            return sum(tokens.subList(1, tokens.size() - 1), words);
        }
        int word = PARTS.indexOf(text);
        return word >= 0 ? words[word] : Long.parseLong(text);
    }

    private static long whole(String sign, long left, long right) {
        if (sign.equals("/") && right == 0) {
            throw new Broken();
        }
        long result = switch (sign) {
            case "+" -> left + right;
            case "-" -> left - right;
            case "*" -> left * right;
            default -> left / right;
        };
        if (Math.abs(result) > 1000000000L) {
            throw new Broken();
        }
        return result;
    }
}
