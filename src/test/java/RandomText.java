import java.util.ArrayList;
import java.util.LinkedHashSet;
import java.util.List;
import java.util.Random;
import java.util.Set;

/** Texts of stations, mostly without a fault. What units have is drawn first, so that any text can name it. */
final class RandomText {
    private static final class Plan {
        String name;
        boolean module;
        int base = -1;
        final Set<Integer> roles = new LinkedHashSet<>();
        final Set<String> own = new LinkedHashSet<>();
        // What is found in it in the end.
        final Set<String> sees = new LinkedHashSet<>();
    }

    private final Random random;
    private final StringBuilder text = new StringBuilder();
    private final List<String> devices = new ArrayList<>();
    private final List<Plan> plans = new ArrayList<>();
    private Set<String> told = new LinkedHashSet<>();
    private boolean inUnit;

    RandomText(Random random) {
        this.random = random;
    }

    private int pick(int n) {
        return random.nextInt(n);
    }

    private void put(String... words) {
        for (String w : words) {
            text.append(w);
            if (random.nextInt(8) == 0) {
                text.append('\n');
            } else {
                text.append(' ');
            }
        }
    }

    String make() {
        int units = 1 + pick(pick(4) == 0 ? 20 : 8);
        for (int i = 0; i < units; i++) {
            plans.add(drawUnit(i));
        }
        for (int i = pick(3); i >= 0; i--) {
            device();
        }
        for (Plan plan : plans) {
            if (pick(6) == 0) {
                device();
            }
            unit(plan);
        }
        int demands = 1 + pick(5);
        for (int i = 0; i < demands; i++) {
            put("demand", "w" + i);
            inUnit = false;
            block(1 + pick(3), 3);
        }
        return text.toString();
    }

    private Plan drawUnit(int i) {
        Plan plan = new Plan();
        plan.module = pick(3) > 0;
        plan.name = (plan.module ? "m" : "r") + i;
        for (int n = pick(4); n > 0 && i > 0; n--) {
            int other = pick(i);
            if (!plans.get(other).module) {
                plan.roles.add(other);
                plan.sees.addAll(plans.get(other).sees);
            } else if (plan.module) {
                plan.base = other;
            }
        }
        if (plan.base >= 0) {
            plan.sees.addAll(plans.get(plan.base).sees);
        }
        for (int n = pick(4); n > 0; n--) {
            plan.own.add((pick(4) == 0 ? "k" : "s") + pick(4));
        }
        plan.sees.addAll(plan.own);
        return plan;
    }

    private void device() {
        if (devices.size() > 5) {
            return;
        }
        int from = pick(10);
        put("device", "d" + devices.size(), "from", "" + from, "to", "" + (from + pick(40)), "pace", "" + (1 + pick(9)),
                ";");
        devices.add("d" + devices.size());
    }

    private void unit(Plan plan) {
        if (!plan.module && pick(3) > 0) {
            put("acting");
        }
        put(plan.module ? "module" : "role", plan.name);
        told = new LinkedHashSet<>();
        if (plan.base >= 0) {
            put("on", plans.get(plan.base).name);
            told.addAll(plans.get(plan.base).sees);
        }
        String key = plan.module ? "has" : "like";
        for (int r : plan.roles) {
            put(key, plans.get(r).name);
            key = ",";
            told.addAll(plans.get(r).sees);
        }
        body(plan);
    }

    private void body(Plan plan) {
        inUnit = true;
        put("{");
        for (String item : plan.own) {
            if (pick(3) == 0) {
                statement(2);
            }
            if (item.startsWith("k")) {
                put("setting", item, "=");
                if (pick(3) == 0) {
                    put("-");
                }
                put("" + pick(60), ";");
            } else {
                put("static", item, "=");
                expr(2);
                put(";");
            }
            told.add(item);
        }
        for (int n = pick(3); n > 0; n--) {
            statement(2);
        }
        if (plan.module && pick(3) == 0) {
            put("closing");
            block(pick(3), 2);
        }
        put("}");
    }

    private void block(int many, int deep) {
        put("{");
        for (int i = 0; i < many; i++) {
            statement(deep - 1);
        }
        put("}");
    }

    private static List<String> fitting(Set<String> names, boolean set) {
        List<String> can = new ArrayList<>();
        for (String s : names) {
            if (!set || s.startsWith("s")) {
                can.add(s);
            }
        }
        return can;
    }

    /** False if none was found. */
    private boolean place(boolean set) {
        List<String> can = fitting(told, set);
        if (inUnit && !can.isEmpty() && pick(2) == 0) {
            put(can.get(pick(can.size())));
            return true;
        }
        for (int i = 0; i < 10; i++) {
            Plan plan = plans.get(pick(plans.size()));
            can = fitting(plan.sees, set);
            if (!can.isEmpty()) {
                put(pick(200) == 0 ? "nix" : plan.name, ".", can.get(pick(can.size())));
                return true;
            }
        }
        return false;
    }

    private void statement(int deep) {
        int what = pick(deep > 0 ? 14 : 9);
        if (what < 4) {
            if (place(true)) {
                put("=");
                expr(2);
                put(";");
            }
        } else if (what < 6) {
            put("touch", plans.get(pick(plans.size())).name, ";");
        } else if (what == 6 && !devices.isEmpty()) {
            put("order", devices.get(pick(devices.size())));
            expr(2);
            put(";");
        } else if (what == 7) {
            put("check");
            expr(2);
            put(";");
        } else if (what == 8 && pick(2) == 0) {
            put("fail", "" + (1 + pick(9)), ";");
        } else if (what == 9 || what == 10) {
            put("if");
            expr(2);
            block(pick(3), deep);
            if (pick(2) == 0) {
                put("else");
                block(pick(3), deep);
            }
        } else if (what == 11) {
            put("while");
            expr(2);
            block(pick(3), deep);
        } else {
            put("try");
            block(deep > 0 ? pick(3) : 0, deep);
            put("on");
            block(deep > 0 ? pick(3) : 0, deep);
        }
    }

    private void expr(int deep) {
        sum(deep);
        if (pick(5) == 0) {
            put(pick(2) == 0 ? "<" : "=");
            sum(deep);
        }
    }

    private void sum(int deep) {
        int n = pick(3);
        part(deep);
        for (int i = 1; i < n; i++) {
            put(String.valueOf("+-*/%".charAt(pick(5))));
            part(deep);
        }
    }

    private void part(int deep) {
        switch (pick(deep > 0 ? 9 : 6)) {
            case 0:
                if (!devices.isEmpty()) {
                    put("of", devices.get(pick(devices.size())));
                    break;
                }
                put("kind");
                break;
            case 1:
                put(pick(2) == 0 ? "kind" : "beats");
                break;
            case 2, 3:
                put("" + (pick(5) == 0 ? 900000000 + pick(90000000) : pick(50)));
                break;
            case 6:
                put("(");
                expr(deep - 1);
                put(")");
                break;
            case 7:
                put("-");
                part(deep - 1);
                break;
            default:
                if (!place(false)) {
                    put("7");
                }
        }
    }

    /** Takes away, doubles, changes or moves a few tokens or signs. */
    static String spoil(String text, Random random) {
        StringBuilder out = new StringBuilder(text);
        String[] bits = {"device", "from", "to", "pace", "acting", "role", "like", "module", "on", "has", "demand",
            "closing", "setting", "static", "touch", "order", "check", "fail", "if", "else", "while", "try", "of",
            "kind", "beats", "{", "}", "(", ")", ",", ";", "=", "<", "+", "-", "*", "/", "%", ".", "d0", "m0", "r0",
            "s0", "k0", "w0", "0", "1", "10", "999999999", "1234567890", "abcdefghijkl", "abcdefghijklm", "A", "#",
            "&", ">", "12ab", "r0 , r0", "((((((((((1))))))))))", "-----------1", "-- -- -- -- --1",
            "((((((((1))))))))", "-------- 1", "try{try{try{try{try{try{try{try{check 1;", "{try{try{try{try{try{try{try{"};
        if (random.nextInt(2) == 0) {
            return swapToken(text, random);
        }
        int times = 1 + random.nextInt(2);
        for (int i = 0; i < times && out.length() > 0; i++) {
            int at = random.nextInt(out.length() + 1);
            int end = Math.min(out.length(), at + random.nextInt(6));
            String bit = bits[random.nextInt(bits.length)];
            switch (random.nextInt(4)) {
                case 0:
                    out.delete(at, end);
                    break;
                case 1:
                    out.insert(at, " " + bit + " ");
                    break;
                case 2:
                    out.replace(at, end, " " + bit + " ");
                    break;
                default:
                    out.setLength(at);
            }
        }
        return out.toString();
    }

    /** Puts a token of the text in the place of another one of its sort. */
    private static String swapToken(String text, Random random) {
        List<Model.Token> tokens = Model.tokens(text);
        Model.Token gone = tokens.get(random.nextInt(tokens.size()));
        List<Model.Token> like = new ArrayList<>();
        for (Model.Token token : tokens) {
            if (token.sort() == gone.sort() || random.nextInt(20) == 0) {
                like.add(token);
            }
        }
        if (like.isEmpty()) {
            return text;
        }
        String put = like.get(random.nextInt(like.size())).text();
        int end = gone.place() + gone.text().length();
        return text.substring(0, gone.place()) + put + text.substring(end);
    }
}
