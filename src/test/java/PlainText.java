import java.util.ArrayList;
import java.util.List;
import java.util.regex.Matcher;
import java.util.regex.Pattern;

/** Contracts once more, by other means: faults by a walk with a stack, worths by cutting the text. */
final class PlainText {
    private static final Pattern TOKEN = Pattern.compile("[a-z]+|[0-9]+|[ \n]+|[^a-z0-9 \n]");
    private static final List<String> KINDS = List.of("fee", "back", "refund", "free");
    private static final List<String> FACTS = List.of("left", "held", "used", "people", "season");

    private PlainText() {
    }

    private static boolean isPart(String token) {
        return FACTS.contains(token) || token.matches("[0-9]{1,4}");
    }

    /** Where a text is: 'r' a rule may begin, 'e' a part must come, 'p' behind a part. */
    static int fault(String text) {
        Matcher m = TOKEN.matcher(text);
        char state = 'r';
        boolean when = false;
        int rules = 0;
        // of each open bracket, and of the rule itself: whether its test has been compared
        List<Boolean> compared = new ArrayList<>();
        while (m.find()) {
            String token = m.group();
            int place = 10 * m.start();
            if (token.isBlank() && token.matches("[ \n]+")) {
                continue;
            }
            int last = compared.size() - 1;
            if (state == 'r') {
                if (!KINDS.contains(token)) {
                    return place + 1;
                }
                if (++rules > 12) {
                    return place + 2;
                }
                when = false;
                compared.clear();
                compared.add(false);
                state = 'e';
            } else if (state == 'e') {
                if (token.equals("(")) {
                    if (compared.size() == 6) {
                        return place + 3;
                    }
                    compared.add(false);
                } else if (isPart(token)) {
                    state = 'p';
                } else {
                    return place + 1;
                }
            } else if (token.equals("+") || token.equals("-")) {
                state = 'e';
            } else if (token.equals("and")) {
                compared.set(last, false);
                state = 'e';
            } else if ((token.equals("<") || token.equals("=")) && !compared.get(last)) {
                compared.set(last, true);
                state = 'e';
            } else if (token.equals(")") && last > 0) {
                compared.remove(last);
            } else if (token.equals("when") && last == 0 && !when) {
                when = true;
                compared.set(0, false);
                state = 'e';
            } else if (token.equals(";") && last == 0) {
                state = 'r';
            } else {
                return place + 1;
            }
        }
        return state == 'r' ? 0 : 10 * text.length() + 1;
    }

    static int rules(String text) {
        return (int) text.chars().filter(c -> c == ';').count();
    }

    static int worth(String text, int kind, int[] facts) {
        for (String rule : spaced(text).split(";")) {
            String[] halves = (rule + " ").split(" when ");
            String words = halves[0].strip();
            String name = KINDS.get(kind) + " ";
            if (!words.startsWith(name)) {
                continue;
            }
            if (halves.length == 1 || value(halves[1].strip(), facts) != 0) {
                return Math.max(0, Math.min(100, value(words.substring(name.length()).strip(), facts)));
            }
        }
        return 0;
    }

    /** Each token with blanks round it, and the rules' ends as bare signs. */
    private static String spaced(String text) {
        StringBuilder s = new StringBuilder();
        Matcher m = TOKEN.matcher(text);
        while (m.find()) {
            s.append(' ').append(m.group().replace('\n', ' ')).append(' ');
        }
        return s.toString().replaceAll(" +", " ");
    }

    private static int value(String words, int[] facts) {
        List<String> tokens = new ArrayList<>(List.of(words.split(" +")));
        int open;
        while ((open = tokens.lastIndexOf("(")) >= 0) {
            int shut = open;
            while (!tokens.get(shut).equals(")")) {
                shut++;
            }
            int inner = flat(tokens.subList(open + 1, shut), facts);
            for (int k = open; k < shut; k++) {
                tokens.remove(open);
            }
            tokens.set(open, "" + inner);
        }
        return flat(tokens, facts);
    }

    /** Without brackets: and binds least, then the comparisons, then + and -. */
    private static int flat(List<String> tokens, int[] facts) {
        int and = tokens.lastIndexOf("and");
        if (and >= 0) {
            int a = flat(tokens.subList(0, and), facts);
            int b = flat(tokens.subList(and + 1, tokens.size()), facts);
            return a != 0 && b != 0 ? 1 : 0;
        }
        int at = Math.max(tokens.indexOf("<"), tokens.indexOf("="));
        if (at >= 0) {
            int a = flat(tokens.subList(0, at), facts);
            int b = flat(tokens.subList(at + 1, tokens.size()), facts);
            return (tokens.get(at).equals("<") ? a < b : a == b) ? 1 : 0;
        }
        int sum = part(tokens.get(0), facts);
        for (int k = 1; k < tokens.size(); k += 2) {
            int b = part(tokens.get(k + 1), facts);
            sum += tokens.get(k).equals("+") ? b : -b;
        }
        return sum;
    }

    private static int part(String token, int[] facts) {
        int fact = FACTS.indexOf(token);
        return fact >= 0 ? facts[fact] : Integer.parseInt(token);
    }
}
