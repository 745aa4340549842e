import java.util.ArrayDeque;
import java.util.ArrayList;
import java.util.List;

/**
 * The document's two languages, said once more in another way than the program does: FAULTS by an
 * automaton that goes from byte to byte, meanings by cutting a text at its weakest signs.
 */
final class PlainTexts {
    static final class Refused extends Exception {
        private static final long serialVersionUID = 1L;
    }

    private PlainTexts() {
    }

    private static int fault(int number, int place) {
        return -1000 * number - place;
    }

    private static boolean isOneOf(int sign, String signs) {
        return sign >= 0 && signs.indexOf(sign) >= 0;
    }

    // ---- FORMULAS

    /** 0 if there is none. Frames: ! and ( as they are, a number for how many FORMULAS a digit has. */
    static int formulaFault(String text) {
        ArrayDeque<Integer> open = new ArrayDeque<>();
        boolean wantsPiece = true;
        boolean wantsParen = false;
        for (int place = 0; place <= text.length(); place++) {
            int sign = place < text.length() ? text.charAt(place) : -1;
            boolean ended = false;
            if (wantsParen) {
                if (sign != '(') {
                    return fault(1, place);
                }
                wantsParen = false;
                wantsPiece = true;
            } else if (wantsPiece) {
                if (!isOneOf(sign, "abcdefghij0123456789!(")) {
                    return fault(1, place);
                }
                if (!open.isEmpty() && open.peek() == 11) {
                    return fault(4, place);
                }
                if (isOneOf(sign, "!(23456789")) {
                    if (open.size() == 6) {
                        return fault(5, place);
                    }
                    open.push(sign == '!' ? (int) '!' : sign == '(' ? (int) '(' : 1);
                    wantsParen = sign >= '2' && sign <= '9';
                } else {
                    ended = true;
                }
            } else if (isOneOf(sign, "&^|")) {
                wantsPiece = true;
            } else if (sign == ',' && !open.isEmpty() && open.peek() <= 10) {
                open.push(open.pop() + 1);
                wantsPiece = true;
            } else if (sign == ')' && !open.isEmpty()) {
                open.pop();
                ended = true;
            } else if (sign == -1 && open.isEmpty()) {
                return 0;
            } else {
                return fault(1, place);
            }
            if (ended) {
                wantsPiece = false;
                while (!open.isEmpty() && open.peek() == '!') {
                    open.pop();
                }
            }
        }
        throw new IllegalStateException(text);
    }

    /** Cuts at the signs that stand in no bracket. */
    private static List<String> cut(String text, String signs) {
        List<String> parts = new ArrayList<>();
        int depth = 0;
        int from = 0;
        for (int i = 0; i < text.length(); i++) {
            char sign = text.charAt(i);
            if (sign == '(' || sign == '[') {
                depth++;
            } else if (sign == ')' || sign == ']') {
                depth--;
            } else if (depth == 0 && signs.indexOf(sign) >= 0) {
                parts.add(text.substring(from, i));
                from = i + 1;
            }
        }
        parts.add(text.substring(from));
        return parts;
    }

    static boolean holds(String formula, int state) {
        for (String side : cut(formula, "|")) {
            int odd = 0;
            for (String each : cut(side, "^")) {
                boolean all = true;
                for (String piece : cut(each, "&")) {
                    all &= pieceHolds(piece, state);
                }
                odd += all ? 1 : 0;
            }
            if (odd % 2 == 1) {
                return true;
            }
        }
        return false;
    }

    private static boolean pieceHolds(String piece, int state) {
        char sign = piece.charAt(0);
        if (sign == '!') {
            return !pieceHolds(piece.substring(1), state);
        }
        if (sign == '(') {
            return holds(piece.substring(1, piece.length() - 1), state);
        }
        if (sign >= 'a') {
            return (state >> (sign - 'a') & 1) == 1;
        }
        if (sign <= '1') {
            return sign == '1';
        }
        int many = 0;
        for (String formula : cut(piece.substring(2, piece.length() - 1), ",")) {
            many += holds(formula, state) ? 1 : 0;
        }
        return many >= sign - '0';
    }

    // ---- THE LAW

    /** How many RULES, or the FAULT. */
    static int law(String text) {
        ArrayDeque<Character> open = new ArrayDeque<>();
        int rules = 0;
        int digits = 0;
        // R: a RULE's letter; F: a FACTOR; T: a TEST; A: behind a FACTOR; C: behind a TEST; E: behind a RULE
        char wants = 'R';
        // e: the E of a RULE; l, r: left, right of < > =
        char role = 'e';
        for (int place = 0; place <= text.length(); place++) {
            int sign = place < text.length() ? text.charAt(place) : -1;
            boolean isDigit = sign >= '0' && sign <= '9';
            if (wants == 'A' && digits > 0 && isDigit) {
                if (digits == 5) {
                    return fault(2, place);
                }
                digits++;
                continue;
            }
            if (wants == 'R') {
                if (!isOneOf(sign, "dgx")) {
                    return fault(1, place);
                }
                if (rules == 16) {
                    return fault(4, place);
                }
                rules++;
                role = 'e';
                wants = sign == 'x' ? 'P' : 'F';
                continue;
            }
            if (wants == 'P') {
                if (sign != '(') {
                    return fault(1, place);
                }
                open.push('(');
                wants = 'T';
                continue;
            }
            if (wants == 'T' && isOneOf(sign, "!(")) {
                if (open.size() == 6) {
                    return fault(5, place);
                }
                open.push((char) sign);
                continue;
            }
            if (wants == 'T' || wants == 'F') {
                if (wants == 'T') {
                    role = 'l';
                }
                if (sign == '[') {
                    if (open.size() == 6) {
                        return fault(5, place);
                    }
                    open.push('[');
                    wants = 'F';
                    continue;
                }
                if (!isDigit && !isOneOf(sign, "wcpsnymz")) {
                    return fault(1, place);
                }
                digits = isDigit ? 1 : 0;
                wants = 'A';
                continue;
            }
            if (wants == 'A') {
                digits = 0;
                boolean inBracket = !open.isEmpty() && open.peek() == '[';
                if (isOneOf(sign, "+-*/%")) {
                    wants = 'F';
                    continue;
                }
                if (inBracket) {
                    if (sign != ']') {
                        return fault(1, place);
                    }
                    open.pop();
                    continue;
                }
                if (role == 'e') {
                    if (sign != '(') {
                        return fault(1, place);
                    }
                    open.push('(');
                    wants = 'T';
                    continue;
                }
                if (role == 'l') {
                    if (!isOneOf(sign, "<>=")) {
                        return fault(1, place);
                    }
                    role = 'r';
                    wants = 'F';
                    continue;
                }
                while (open.peek() == '!') {
                    open.pop();
                }
                wants = 'C';
            }
            if (wants == 'C') {
                if (isOneOf(sign, "&|")) {
                    wants = 'T';
                } else if (sign == ')') {
                    open.pop();
                    while (!open.isEmpty() && open.peek() == '!') {
                        open.pop();
                    }
                    wants = open.isEmpty() ? 'E' : 'C';
                } else {
                    return fault(1, place);
                }
                continue;
            }
            if (sign == -1) {
                return rules;
            }
            if (sign != ';') {
                return fault(1, place);
            }
            wants = 'R';
        }
        throw new IllegalStateException(text);
    }

    /** The E of the first RULE of the kind whose C holds (of x: 1), or null. */
    static Integer worth(String law, char kind, int[] values) {
        if (law.isEmpty()) {
            return null;
        }
        for (String rule : cut(law, ";")) {
            int paren = rule.indexOf('(');
            if (rule.charAt(0) == kind && ruleHolds(rule.substring(paren + 1, rule.length() - 1), values)) {
                return kind == 'x' ? 1 : ruleWorth(rule.substring(1, paren), values);
            }
        }
        return null;
    }

    private static boolean ruleHolds(String test, int[] values) {
        try {
            return testHolds(test, values);
        } catch (Refused refused) {
            return false;
        }
    }

    private static int ruleWorth(String worth, int[] values) {
        try {
            return reckon(worth, values);
        } catch (Refused refused) {
            return 0;
        }
    }

    private static boolean testHolds(String text, int[] values) throws Refused {
        for (String part : cut(text, "|")) {
            boolean all = true;
            for (String test : cut(part, "&")) {
                all = all && oneTestHolds(test, values);
            }
            if (all) {
                return true;
            }
        }
        return false;
    }

    private static boolean oneTestHolds(String test, int[] values) throws Refused {
        if (test.charAt(0) == '!') {
            return !oneTestHolds(test.substring(1), values);
        }
        if (test.charAt(0) == '(') {
            return testHolds(test.substring(1, test.length() - 1), values);
        }
        for (char sign : new char[] {'<', '>', '='}) {
            int place = test.indexOf(sign);
            if (place >= 0) {
                int left = reckon(test.substring(0, place), values);
                int right = reckon(test.substring(place + 1), values);
                return sign == '<' ? left < right : sign == '>' ? left > right : left == right;
            }
        }
        throw new IllegalStateException(test);
    }

    private static int reckon(String text, int[] values) throws Refused {
        String[] signs = {"+-", "*/%"};
        for (String weakest : signs) {
            List<String> parts = cut(text, weakest);
            if (parts.size() > 1) {
                String right = parts.get(parts.size() - 1);
                int place = text.length() - right.length() - 1;
                int left = reckon(text.substring(0, place), values);
                return reckonTwo(left, text.charAt(place), reckon(right, values));
            }
        }
        char first = text.charAt(0);
        if (first == '[') {
            return reckon(text.substring(1, text.length() - 1), values);
        }
        return first <= '9' ? Integer.parseInt(text) : values["wcpsnymz".indexOf(first)];
    }

    private static int reckonTwo(int left, char sign, int right) throws Refused {
        if ((sign == '/' || sign == '%') && right == 0) {
            throw new Refused();
        }
        switch (sign) {
            case '+':
                return left + right;
            case '-':
                return left - right;
            case '*':
                return left * right;
            case '/':
                return left / right;
            default:
                return left % right;
        }
    }
}
