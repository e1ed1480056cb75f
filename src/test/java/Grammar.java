import java.util.ArrayList;
import java.util.HashMap;
import java.util.LinkedHashSet;
import java.util.List;
import java.util.Map;

/**
 * The grammar of texts as the document writes it, read by Earley's way: it knows nothing of how
 * the class reads. A text's first token that no text could have there is its fault.
 */
final class Grammar {
    private record Token(String kind, String word, int place) { }

    private record Item(String left, List<String> right, int dot, int from) {
        String awaited() {
            return dot < right.size() ? right.get(dot) : null;
        }
    }

    private static final Map<String, List<List<String>>> RULES = rules();
    private static final String KEYS = " drinks worth breaks or and not ";
    private static final String NAMES = " day drunk full empty cork label ";

    private final List<Token> tokens = new ArrayList<>();
    private final int size;

    Grammar(byte[] text) {
        size = text.length;
        String s = new String(text, java.nio.charset.StandardCharsets.ISO_8859_1);
        var m = java.util.regex.Pattern.compile("[a-z]+|[0-9]+|[();+\\-*<=]|[ \\n]+|(?s:.)").matcher(s);
        while (m.find()) {
            String w = m.group();
            if (!w.isBlank() || !w.matches("[ \\n]+")) {
                tokens.add(new Token(kindOf(w), w, m.start()));
            }
        }
    }

    private static String kindOf(String w) {
        if (w.matches("[0-9]+")) {
            return w.length() > 4 ? "broken" : "number";
        }
        if (w.matches("[a-z]+")) {
            return KEYS.contains(" " + w + " ") ? w : NAMES.contains(" " + w + " ") ? "name" : "broken";
        }
        return w.matches("[();+\\-*<=]") ? w : "broken";
    }

    /** The depth (how many are open) is a part of each rule's name, so that a sixth has no rule. */
    private static Map<String, List<List<String>>> rules() {
        Map<String, List<List<String>>> rules = new HashMap<>();
        rule(rules, "text", "drinks e0 ; worth e0 ; breaks e0 ;");
        for (int d = 0; d <= 5; d++) {
            rule(rules, "e" + d, "and" + d);
            rule(rules, "e" + d, "e" + d + " or and" + d);
            rule(rules, "and" + d, "not" + d);
            rule(rules, "and" + d, "and" + d + " and not" + d);
            rule(rules, "not" + d, "sum" + d);
            rule(rules, "not" + d, "sum" + d + " < sum" + d);
            rule(rules, "not" + d, "sum" + d + " = sum" + d);
            rule(rules, "sum" + d, "term" + d);
            rule(rules, "sum" + d, "sum" + d + " + term" + d);
            rule(rules, "sum" + d, "sum" + d + " - term" + d);
            rule(rules, "term" + d, "one" + d);
            rule(rules, "term" + d, "term" + d + " * one" + d);
            rule(rules, "one" + d, "number");
            rule(rules, "one" + d, "name");
            if (d < 5) {
                rule(rules, "not" + d, "not not" + (d + 1));
                rule(rules, "one" + d, "- one" + (d + 1));
                rule(rules, "one" + d, "( e" + (d + 1) + " )");
            }
        }
        return rules;
    }

    private static void rule(Map<String, List<List<String>>> rules, String left, String right) {
        rules.computeIfAbsent(left, k -> new ArrayList<>()).add(List.of(right.split(" ")));
    }

    /** The place of the fault; -1: there is none. */
    int fault() {
        List<LinkedHashSet<Item>> sets = new ArrayList<>();
        LinkedHashSet<Item> first = new LinkedHashSet<>();
        for (List<String> right : RULES.get("text")) {
            first.add(new Item("text", right, 0, 0));
        }
        sets.add(first);
        for (int k = 0; k <= tokens.size(); k++) {
            complete(sets, k);
            if (k == tokens.size()) {
                break;
            }
            LinkedHashSet<Item> then = new LinkedHashSet<>();
            for (Item i : sets.get(k)) {
                if (tokens.get(k).kind().equals(i.awaited())) {
                    then.add(new Item(i.left(), i.right(), i.dot() + 1, i.from()));
                }
            }
            if (then.isEmpty()) {
                return tokens.get(k).place();
            }
            sets.add(then);
        }
        for (Item i : sets.get(tokens.size())) {
            if (i.left().equals("text") && i.awaited() == null) {
                return -1;
            }
        }
        return size;
    }

    private static void complete(List<LinkedHashSet<Item>> sets, int k) {
        List<Item> open = new ArrayList<>(sets.get(k));
        for (int n = 0; n < open.size(); n++) {
            Item i = open.get(n);
            List<Item> more = new ArrayList<>();
            if (i.awaited() == null) {
                for (Item waiting : i.from() == k ? List.copyOf(open) : List.copyOf(sets.get(i.from()))) {
                    if (i.left().equals(waiting.awaited())) {
                        more.add(new Item(waiting.left(), waiting.right(), waiting.dot() + 1, waiting.from()));
                    }
                }
            } else {
                for (List<String> right : RULES.getOrDefault(i.awaited(), List.of())) {
                    more.add(new Item(i.awaited(), right, 0, k));
                }
            }
            for (Item m : more) {
                if (sets.get(k).add(m)) {
                    open.add(m);
                }
            }
        }
    }

    /** What a part of a text without fault says, before its bounds. */
    int says(int part, Map<String, Integer> named) {
        List<List<Token>> parts = new ArrayList<>(List.of(new ArrayList<>()));
        for (Token t : tokens) {
            if (t.kind().equals(";")) {
                parts.add(new ArrayList<>());
            } else {
                parts.get(parts.size() - 1).add(t);
            }
        }
        List<Token> own = parts.get(part);
        return value(own.subList(1, own.size()), named);
    }

    /** Splits at the last sign of the weakest that stands outside all ( ). */
    private static int value(List<Token> e, Map<String, Integer> named) {
        for (String sign : new String[] {"or", "and"}) {
            int at = lastOf(e, sign, sign);
            if (at >= 0) {
                boolean a = value(e.subList(0, at), named) != 0;
                boolean b = value(e.subList(at + 1, e.size()), named) != 0;
                return (sign.equals("or") ? a || b : a && b) ? 1 : 0;
            }
        }
        if (e.get(0).kind().equals("not")) {
            return value(e.subList(1, e.size()), named) == 0 ? 1 : 0;
        }
        for (String[] pair : new String[][] {{"<", "="}, {"+", "-"}, {"*", "*"}}) {
            int at = lastOf(e, pair[0], pair[1]);
            if (at >= 0) {
                int a = value(e.subList(0, at), named);
                int b = value(e.subList(at + 1, e.size()), named);
                switch (e.get(at).kind()) {
                    case "<": return a < b ? 1 : 0;
                    case "=": return a == b ? 1 : 0;
                    case "+": return a + b;
                    case "-": return a - b;
                    default: return a * b;
                }
            }
        }
        switch (e.get(0).kind()) {
            case "-": return -value(e.subList(1, e.size()), named);
            case "(": return value(e.subList(1, e.size() - 1), named);
            case "number": return Integer.parseInt(e.get(0).word());
            default: return named.get(e.get(0).word());
        }
    }

    private static int lastOf(List<Token> e, String sign, String other) {
        int depth = 0;
        for (int i = e.size() - 1; i > 0; i--) {
            String kind = e.get(i).kind();
            depth += kind.equals(")") ? 1 : kind.equals("(") ? -1 : 0;
            boolean behindOperand = List.of("number", "name", ")").contains(e.get(i - 1).kind());
            if (depth == 0 && behindOperand && (kind.equals(sign) || kind.equals(other))) {
                return i;
            }
        }
        return -1;
    }
}
