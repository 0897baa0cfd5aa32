import java.util.ArrayList;
import java.util.List;
import java.util.Random;

/** Texts that are mostly right, in all TYPES, with a slip here and there. */
final class RandomText {
    private static final String[] TYPES = {"int", "bool", "row", "list"};
    private static final String LETTERS = "abcdefghijklmnopqrstuvwxyz";

    private final Random random;
    private final double slips;
    private StringBuilder out = new StringBuilder();
    private List<String> names = new ArrayList<>();
    private List<Integer> types = new ArrayList<>();
    private final List<String> funNames = new ArrayList<>();
    private final List<Integer> funTypes = new ArrayList<>();
    private final List<List<Integer>> funParams = new ArrayList<>();
    private int funType = 0;

    private RandomText(Random random, double slips) {
        this.random = random;
        this.slips = slips;
    }

    static String make(Random random, double slips) {
        for (int i = 0; i < 50; i++) {
            String text = new RandomText(random, slips).text();
            if (text.length() <= 240) {
                return text;
            }
        }
        return "fun a()int{}";
    }

    /** A text near the end of what a TAPE or CODE can hold, or of how deep an E can lie. */
    static String makeLong(Random random) {
        StringBuilder s = new StringBuilder("fun a()int{");
        int length = 200 + random.nextInt(37);
        String[] parts = {"-1+", "1+", "2*", "(3)-", "--", "head tail none-", "(-(-1))-", "size new 3/", "1:"};
        int kinds = random.nextInt(3) == 0 ? parts.length : 3 + random.nextInt(2);
        s.append("return ");
        while (s.length() < length) {
            s.append(parts[random.nextInt(kinds)]);
        }
        s.append("1;}");
        return s.length() > 240 ? s.substring(0, 240) : s.toString();
    }

    /** A text with some bytes changed, taken away or put in. */
    static String spoil(Random random, String text) {
        StringBuilder s = new StringBuilder(text);
        String bytes = "(){}[],;:=<+-*/ \n09afxnr#A\t\u00e9";
        for (int n = 1 + random.nextInt(2); n > 0; n--) {
            int at = random.nextInt(s.length() + 1);
            char c = bytes.charAt(random.nextInt(bytes.length()));
            int how = random.nextInt(4);
            if (how == 0 || at == s.length()) {
                s.insert(at, c);
            } else if (how == 1) {
                s.setCharAt(at, c);
            } else if (how == 2) {
                s.deleteCharAt(at);
            } else {
                s.setLength(at);
            }
        }
        return s.length() > 240 ? s.substring(0, 240) : s.toString();
    }

    private boolean slip() {
        return random.nextDouble() < slips;
    }

    private int any(int n) {
        return random.nextInt(n);
    }

    private String text() {
        int funs = 1 + (any(3) == 0 ? any(4) : any(2));
        if (slip()) {
            funs = 6;
        }
        for (int f = 0; f < funs; f++) {
            fun(f == funs - 1);
        }
        return out.toString();
    }

    private String blank() {
        return any(12) == 0 ? any(2) == 0 ? " " : "\n" : "";
    }

    private void fun(boolean last) {
        names = new ArrayList<>();
        types = new ArrayList<>();
        String name = LETTERS.substring(funNames.size(), funNames.size() + 1);
        if (slip() && !funNames.isEmpty()) {
            name = funNames.get(0);
        }
        funType = any(3) == 0 ? any(4) : 0;
        int params = last ? slip() ? 1 : 0 : any(4) == 0 ? any(7) : any(3);
        out.append("fun ").append(name).append(blank()).append("(");
        List<Integer> paramTypes = new ArrayList<>();
        for (int p = 0; p < params; p++) {
            int type = any(4);
            String param = newName();
            out.append(p > 0 ? "," : "").append(TYPES[type]).append(" ").append(param);
            names.add(param);
            types.add(type);
            paramTypes.add(type);
        }
        out.append(")").append(TYPES[funType]);
        funNames.add(name);
        funTypes.add(funType);
        funParams.add(paramTypes);
        block(3, 1 + any(6));
    }

    /** Three levels of E often lie too deep, which is a FAULT of its own. */
    private int deep() {
        return any(12) == 0 ? 3 : 2;
    }

    private String newName() {
        for (int i = 0; i < 20; i++) {
            String name = LETTERS.substring(20 + any(6), 26).substring(0, 1);
            if (!names.contains(name) || slip()) {
                return name;
            }
        }
        return LETTERS.substring(any(10), 26).substring(0, 1);
    }

    private void block(int deep, int statements) {
        out.append("{");
        for (int i = 0; i < statements; i++) {
            statement(deep);
            out.append(blank());
        }
        out.append("}");
    }

    private void statement(int deep) {
        int how = any(12);
        if (how < 3 && (names.size() < 6 || slip())) {
            int type = any(4);
            String name = newName();
            out.append(TYPES[type]).append(" ").append(name).append("=");
            e(slip() ? any(4) : type, deep());
            out.append(";");
            if (!names.contains(name)) {
                names.add(name);
                types.add(type);
            }
        } else if (how < 6 && !names.isEmpty()) {
            int v = any(names.size());
            out.append(slip() ? "q" : names.get(v));
            if (types.get(v) == 2 && any(3) > 0 || slip()) {
                out.append("[");
                e(0, 2);
                out.append("]=");
                e(0, 2);
            } else {
                out.append("=");
                e(types.get(v), deep());
            }
            out.append(";");
        } else if (how < 8 && deep > 0) {
            out.append("if ");
            e(slip() ? 0 : 1, 2);
            block(deep - 1, any(3));
            if (any(2) == 0) {
                out.append("else");
                block(deep - 1, any(3));
            }
        } else if (how < 10 && deep > 0) {
            out.append("while ");
            if (any(2) == 0) {
                out.append("true");
            } else {
                e(1, 2);
            }
            block(deep - 1, 1 + any(3));
        } else if (how == 10) {
            out.append("print ");
            e(any(2), 2);
            out.append(";");
        } else if (any(4) == 0) {
            out.append("return ");
            e(slip() ? any(4) : funType, deep());
            out.append(";");
        }
    }

    /** An E of a TYPE, within brackets where it is made of two. */
    private void e(int type, int deep) {
        if (slip()) {
            type = any(4);
        }
        if (deep <= 0 || any(4) == 0) {
            leaf(type);
            return;
        }
        if (any(6) == 0 && call(type, deep)) {
            return;
        }
        switch (type) {
            case 0:
                number(deep);
                break;
            case 1:
                truth(deep);
                break;
            case 2:
                out.append("new ");
                out.append(any(12));
                break;
            default:
                if (any(4) == 0) {
                    out.append("tail ");
                    under(3, deep - 1);
                } else {
                    under(0, deep - 1);
                    out.append(":");
                    e(3, deep - 1);
                }
        }
    }

    private void under(int type, int deep) {
        boolean brackets = any(2) == 0;
        out.append(brackets ? "(" : "");
        if (brackets) {
            e(type, deep);
        } else {
            leaf(type);
        }
        out.append(brackets ? ")" : "");
    }

    private void number(int deep) {
        switch (any(8)) {
            case 0:
                out.append("-");
                under(0, deep - 1);
                break;
            case 1:
                out.append("size ");
                under(2, deep - 1);
                break;
            case 2:
                out.append("head ");
                under(3, deep - 1);
                break;
            case 3:
                under(2, deep - 1);
                out.append("[");
                e(0, deep - 1);
                out.append("]");
                break;
            default:
                under(0, deep - 1);
                out.append("+-*/".charAt(any(4)));
                under(0, deep - 1);
        }
    }

    private void truth(int deep) {
        switch (any(5)) {
            case 0:
                out.append("not ");
                under(1, deep - 1);
                break;
            case 1:
                under(1, deep - 1);
                out.append(any(2) == 0 ? " and " : " or ");
                under(1, deep - 1);
                break;
            case 2:
                under(1, deep - 1);
                out.append("=");
                under(1, deep - 1);
                break;
            default:
                under(0, deep - 1);
                out.append(any(2) == 0 ? "<" : "=");
                under(0, deep - 1);
        }
    }

    private boolean call(int type, int deep) {
        for (int f = funNames.size() - 1; f >= 0; f--) {
            if (funTypes.get(f) == type && any(3) > 0) {
                out.append(slip() ? "z" : funNames.get(f)).append("(");
                int given = funParams.get(f).size() + (slip() ? 1 : 0);
                for (int p = 0; p < given; p++) {
                    out.append(p > 0 ? "," : "");
                    e(p < funParams.get(f).size() ? funParams.get(f).get(p) : 0, deep - 1);
                }
                out.append(")");
                return true;
            }
        }
        return false;
    }

    private void leaf(int type) {
        List<String> fitting = new ArrayList<>();
        for (int v = 0; v < names.size(); v++) {
            if (types.get(v) == type) {
                fitting.add(names.get(v));
            }
        }
        if (!fitting.isEmpty() && any(4) > 0) {
            out.append(fitting.get(any(fitting.size())));
        } else if (type == 0) {
            out.append(any(8) == 0 ? slip() ? any(1000000) : any(100000) : any(5));
        } else if (type == 1) {
            out.append(any(2) == 0 ? "true" : "false");
        } else if (type == 2) {
            out.append("(new ").append(any(6)).append(")");
        } else {
            out.append("none");
        }
    }
}
