import java.util.ArrayList;
import java.util.List;
import java.util.regex.Matcher;
import java.util.regex.Pattern;

/** How Model reads a TEXT of either language. */
final class Texts {
    private static final Pattern TOKEN = Pattern.compile("[a-z]+|[0-9]+|[^ ]", Pattern.DOTALL);
    private static final List<String> LAW_WORDS = List.of("person", "kind", "sin", "sins", "sight", "lit", "first", "day", "mood");
    private static final List<String> ORDER_WORDS = List.of("day", "done", "latest", "scene", "sins", "sight", "does");

    private final boolean law;
    private final List<String> tokens = new ArrayList<>();
    private final List<Integer> places = new ArrayList<>();
    private int at;
    private int parts;
    private int open;

    Texts(String text, boolean law) {
        this.law = law;
        Matcher found = TOKEN.matcher(text);
        while (found.find()) {
            tokens.add(found.group());
            places.add(found.start());
        }
        tokens.add("");
        places.add(text.length());
    }

    private boolean is(String... any) {
        return List.of(any).contains(tokens.get(at));
    }

    private boolean isNumber(int least, int most) {
        String token = tokens.get(at);
        if (!token.matches("[0-9]+")) {
            return false;
        }
        java.math.BigInteger value = new java.math.BigInteger(token);
        return value.compareTo(java.math.BigInteger.valueOf(least)) >= 0 && value.compareTo(java.math.BigInteger.valueOf(most)) <= 0;
    }

    private String next() {
        return tokens.get(at++);
    }

    private String next(boolean can) {
        if (!can) {
            throw new Model.Fault(places.get(at));
        }
        return next();
    }

    List<Model.Clause> clauses() {
        List<Model.Clause> all = new ArrayList<>();
        all.add(clause());
        while (is(";")) {
            next();
            if (all.size() == 12) {
                next(false);
            }
            all.add(clause());
        }
        next(is(""));
        return all;
    }

    private Model.Clause clause() {
        Model.Clause clause = new Model.Clause();
        clause.verb = next(law ? is("grinds", "grows", "does", "bars") : is("sin", "grind", "swap", "cloth", "pass"));
        if (!clause.verb.equals("bars") && !clause.verb.equals("pass")) {
            clause.sums.add(sum());
        }
        if (!law && (clause.verb.equals("sin") || clause.verb.equals("swap"))) {
            next(is(clause.verb.equals("sin") ? "of" : "with"));
            clause.sums.add(sum());
        }
        if (!law && is("times")) {
            next();
            clause.times = Integer.parseInt(next(isNumber(1, 20)));
        }
        if (is("if")) {
            next();
            clause.test = test();
        }
        return clause;
    }

    private Model.Test test() {
        Model.Test made = both();
        while (is("or")) {
            next();
            Model.Test left = made;
            Model.Test right = both();
            made = words -> {
                Boolean so = left.of(words);
                return so == null || so ? so : right.of(words);
            };
        }
        return made;
    }

    private Model.Test both() {
        Model.Test made = plain();
        while (is("and")) {
            next();
            Model.Test left = made;
            Model.Test right = plain();
            made = words -> {
                Boolean so = left.of(words);
                return so == null || !so ? so : right.of(words);
            };
        }
        return made;
    }

    private Model.Test plain() {
        if (is("not")) {
            next();
            Model.Test inner = plain();
            return words -> {
                Boolean so = inner.of(words);
                return so == null ? null : Boolean.valueOf(!so);
            };
        }
        if (is("(")) {
            next(open < 8);
            open++;
            Model.Test inner = test();
            next(is(")"));
            open--;
            return inner;
        }
        Model.Sum left = sum();
        String sign = next(is("<", ">", "="));
        Model.Sum right = sum();
        return words -> {
            Long one = left.of(words);
            Long other = right.of(words);
            if (one == null || other == null) {
                return null;
            }
            int order = one.compareTo(other);
            return sign.equals("<") ? order < 0 : sign.equals(">") ? order > 0 : order == 0;
        };
    }

    private Model.Sum sum() {
        Model.Sum made = term();
        while (is("+", "-")) {
            String sign = next();
            made = joined(made, sign, term());
        }
        return made;
    }

    private Model.Sum term() {
        Model.Sum made = part();
        while (is("*", "/", "%")) {
            String sign = next();
            made = joined(made, sign, part());
        }
        return made;
    }

    private static Model.Sum joined(Model.Sum left, String sign, Model.Sum right) {
        return words -> {
            Long one = left.of(words);
            Long other = right.of(words);
            if (one == null || other == null || other == 0 && (sign.equals("/") || sign.equals("%"))) {
                return null;
            }
            long made = switch (sign) {
                case "+" -> one + other;
                case "-" -> one - other;
                case "*" -> one * other;
                case "/" -> one / other;
                default -> one % other;
            };
            return Math.abs(made) > 1000000000L ? null : Long.valueOf(made);
        };
    }

    private Model.Sum part() {
        if (is("[")) {
            next(open < 8);
            open++;
            Model.Sum inner = sum();
            next(is("]"));
            open--;
            return inner;
        }
        boolean word = (law ? LAW_WORDS : ORDER_WORDS).contains(tokens.get(at));
        String token = next(parts < 50 && (word || isNumber(0, 1000)));
        parts++;
        if (!word) {
            long number = Long.parseLong(token);
            return words -> number;
        }
        int person = !law && List.of("sins", "sight", "does").contains(token) ? Integer.parseInt(next(isNumber(0, 5))) : -1;
        return words -> words.worth(token, person);
    }
}
