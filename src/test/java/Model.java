import java.util.ArrayList;
import java.util.HashMap;
import java.util.LinkedHashMap;
import java.util.LinkedHashSet;
import java.util.List;
import java.util.Map;
import java.util.Set;
import java.util.TreeSet;

/**
 * The document said a second time, as a plain tree that is walked by recursion, with none of the class's code: tests
 * compare both on random texts and calls.
 */
final class Model {
    static final Set<String> KEYS = Set.of("device", "from", "to", "pace", "acting", "role", "like", "module", "on",
            "has", "demand", "closing", "setting", "static", "touch", "order", "check", "fail", "if", "else", "while",
            "try", "of", "kind", "beats");

    record Token(String text, int place, char sort) { // sort: n number, w name, k keyword, s sign, x none, e end
    }

    static final class TextFault extends RuntimeException {
        final int kind;
        final int place;

        TextFault(int kind, int place) {
            this.kind = kind;
            this.place = place;
        }
    }

    static final class RunFault extends RuntimeException {
        final int[] row;

        RunFault(int... row) {
            super(null, null, false, false);
            this.row = row;
        }
    }

    static final class NoSteps extends RuntimeException {
        NoSteps() {
            super(null, null, false, false);
        }
    }

    interface Do {
        void run(Ctx c);
    }

    interface Val {
        int get(Ctx c);
    }

    static final class Ctx {
        final int unit;
        final boolean closing;
        int kind;

        Ctx(int unit, boolean closing) {
            this.unit = unit;
            this.closing = closing;
        }
    }

    static final class Dev {
        String name;
        int from, to, pace, place, goal;
    }

    static final class U {
        String name;
        int index, base = -1;
        boolean module, acting;
        List<Integer> roles = new ArrayList<>();
        Map<String, Object> items = new LinkedHashMap<>(); // Integer: a setting; int[]{rank}: a static
        List<Do> start = new ArrayList<>();
        Do closing;
        Set<Integer> names = new TreeSet<>();
        int state, edition;
        int[] statics = new int[8];
        List<Integer> cause = new ArrayList<>();
        List<Integer> needs = new ArrayList<>();

        int staticCount() {
            int n = 0;
            for (Object o : items.values()) {
                n += o instanceof int[] ? 1 : 0;
            }
            return n;
        }
    }

    static final class Dem {
        String name;
        Do block;
    }

    static final class Sta {
        List<Dev> devs = new ArrayList<>();
        List<U> units = new ArrayList<>();
        List<Dem> demands = new ArrayList<>();
    }

    StringBuilder tape = new StringBuilder();
    Sta st = new Sta();
    int beat, stepsAll, latest;
    boolean shut;
    List<Integer> ended = new ArrayList<>();
    List<Integer> foreseenList = new ArrayList<>();
    Set<Integer> plans = new LinkedHashSet<>();
    List<int[]> ups = new ArrayList<>();
    List<int[]> halves = new ArrayList<>();
    List<int[]> orders = new ArrayList<>();
    List<int[]> closings = new ArrayList<>();
    int left;
    int nowDemand;

    // ---- texts

    int feed(String signs) {
        for (char c : signs.toCharArray()) {
            if ((c == 10 || c >= 32 && c <= 126) && tape.length() < 4000) {
                tape.append(c);
            }
        }
        return tape.length();
    }

    static List<Token> tokens(String s) {
        List<Token> out = new ArrayList<>();
        java.util.regex.Matcher m = java.util.regex.Pattern
                .compile("[ \\n]+|([a-z][a-z0-9]*)|([0-9]+)|([{}(),;=<+\\-*/%.])|(.)").matcher(s);
        while (m.find()) {
            if (m.group(1) != null) {
                String w = m.group(1);
                out.add(new Token(w, m.start(), w.length() > 12 ? 'x' : KEYS.contains(w) ? 'k' : 'w'));
            } else if (m.group(2) != null) {
                out.add(new Token(m.group(2), m.start(), m.group(2).length() > 9 ? 'x' : 'n'));
            } else if (m.group(3) != null) {
                out.add(new Token(m.group(3), m.start(), 's'));
            } else if (m.group(4) != null) {
                out.add(new Token(m.group(4), m.start(), 'x'));
            }
        }
        out.add(new Token("", s.length(), 'e'));
        return out;
    }

    int station() {
        String text = tape.toString();
        tape.setLength(0);
        Sta made;
        try {
            made = new Parser(text).parse();
        } catch (TextFault f) {
            return f.kind + 16 * f.place;
        }
        st = made;
        beat = 0;
        latest = 0;
        shut = false;
        ended = new ArrayList<>();
        foreseenList = new ArrayList<>();
        plans.clear();
        ups.clear();
        halves.clear();
        orders.clear();
        closings.clear();
        return 0;
    }

    int named(int sort) {
        String word = tape.toString().replaceAll("^[ \\n]+|[ \\n]+$", "");
        tape.setLength(0);
        List<String> names = new ArrayList<>();
        if (sort == 0) {
            st.devs.forEach(d -> names.add(d.name));
        } else if (sort == 1) {
            st.units.forEach(u -> names.add(u.name));
        } else if (sort == 2) {
            st.demands.forEach(d -> names.add(d.name));
        }
        return names.indexOf(word);
    }

    /** Each NAME is looked for by walking, not by a list made ahead. */
    static U owner(Sta s, U u, String name) {
        if (u.items.containsKey(name)) {
            return u;
        }
        for (int r : u.roles) {
            U o = owner(s, s.units.get(r), name);
            if (o != null) {
                return o;
            }
        }
        return u.base < 0 ? null : owner(s, s.units.get(u.base), name);
    }

    final class Parser {
        final List<Token> toks;
        final Sta s = new Sta();
        int at;
        U unit;
        final List<Runnable> later = new ArrayList<>();
        final List<TextFault> lateFaults = new ArrayList<>();

        Parser(String text) {
            toks = tokens(text);
        }

        Token t() {
            return toks.get(at);
        }

        boolean is(String text) {
            return (t().sort == 's' || t().sort == 'k') && t().text.equals(text);
        }

        void fault(int kind) {
            throw new TextFault(kind, t().place);
        }

        /** Throws the least of those kinds that hold for the token here. */
        void faultIf(boolean one, boolean two, boolean three, boolean four, boolean five, boolean six) {
            boolean[] all = {one, two, three, four, five, six};
            for (int i = 0; i < 6; i++) {
                if (all[i]) {
                    fault(i + 1);
                }
            }
        }

        void want(String text) {
            if (!is(text)) {
                fault(1);
            }
            at++;
        }

        String name() {
            if (t().sort != 'w') {
                fault(1);
            }
            return toks.get(at++).text;
        }

        int number(long least, long most) {
            if (t().sort != 'n') {
                fault(1);
            }
            long v = Long.parseLong(t().text);
            if (v < least || v > most) {
                fault(4);
            }
            at++;
            return (int) v;
        }

        int unitOf(String n) {
            for (U u : s.units) {
                if (u.name.equals(n)) {
                    return u.index;
                }
            }
            return -1;
        }

        int devOf(String n) {
            for (int i = 0; i < s.devs.size(); i++) {
                if (s.devs.get(i).name.equals(n)) {
                    return i;
                }
            }
            return -1;
        }

        String freshName() {
            if (t().sort == 'w') {
                String n = t().text;
                boolean told = unitOf(n) >= 0 || devOf(n) >= 0;
                for (Dem d : s.demands) {
                    told |= d.name.equals(n);
                }
                if (told) {
                    fault(3);
                }
            }
            return name();
        }

        Sta parse() {
            while (t().sort != 'e') {
                if (is("device")) {
                    if (s.devs.size() == 24) {
                        fault(5);
                    }
                    device();
                } else if (is("role") || is("acting") || is("module")) {
                    if (s.units.size() == 24) {
                        fault(5);
                    }
                    unit();
                } else if (is("demand")) {
                    if (s.demands.size() == 20) {
                        fault(5);
                    }
                    at++;
                    Dem d = new Dem();
                    d.name = freshName();
                    s.demands.add(d);
                    unit = null;
                    d.block = block(1);
                } else {
                    fault(1);
                }
            }
            for (Runnable r : later) {
                try {
                    r.run();
                } catch (TextFault f) {
                    lateFaults.add(f);
                }
            }
            TextFault first = null;
            for (TextFault f : lateFaults) {
                if (first == null || f.place < first.place) {
                    first = f;
                }
            }
            if (first != null) {
                throw first;
            }
            return s;
        }

        void device() {
            at++;
            Dev d = new Dev();
            d.name = freshName();
            want("from");
            d.from = number(0, 999999999);
            want("to");
            d.to = number(d.from, 999999999);
            want("pace");
            d.pace = number(1, 999999999);
            want(";");
            d.place = d.from;
            d.goal = d.from;
            s.devs.add(d);
        }

        void roles(U u) {
            do {
                at++;
                boolean isName = t().sort == 'w';
                int r = unitOf(t().text);
                faultIf(!isName, r < 0, u.roles.contains(r), false, u.roles.size() >= 6,
                        r >= 0 && s.units.get(r).module);
                u.roles.add(r);
                at++;
            } while (is(","));
        }

        void unit() {
            U u = new U();
            u.index = s.units.size();
            if (is("acting")) {
                u.acting = true;
                at++;
                if (!is("role")) {
                    fault(1);
                }
            }
            u.module = is("module");
            at++;
            u.name = freshName();
            if (u.module && is("on")) {
                at++;
                int b = unitOf(t().text);
                faultIf(t().sort != 'w', b < 0, false, false, false, b >= 0 && !s.units.get(b).module);
                u.base = b;
                at++;
            }
            if (is(u.module ? "has" : "like")) {
                roles(u);
            }
            s.units.add(u);
            unit = u;
            want("{");
            while (!is("}") && !is("closing")) {
                if (is("setting") || is("static")) {
                    item(u);
                } else {
                    u.start.add(statement(0));
                }
            }
            if (is("closing")) {
                if (!u.module) {
                    fault(1);
                }
                at++;
                u.closing = block(1);
            }
            want("}");
        }

        void item(U u) {
            boolean isStatic = is("static");
            at++;
            faultIf(t().sort != 'w', false, u.items.containsKey(t().text), false, u.items.size() >= 8, false);
            String n = name();
            want("=");
            if (isStatic) {
                Val e = expr(1);
                want(";");
                int rank = u.staticCount();
                u.items.put(n, new int[] {rank});
                u.start.add(c -> {
                    step();
                    set(c, u.index, rank, e.get(c));
                });
            } else {
                boolean minus = is("-");
                if (minus) {
                    at++;
                }
                int v = number(0, 999999999);
                want(";");
                u.items.put(n, minus ? -v : v);
            }
        }

        Do block(int deep) {
            if (is("{") && deep > 10) {
                fault(5);
            }
            want("{");
            List<Do> all = new ArrayList<>();
            while (!is("}")) {
                all.add(statement(deep));
            }
            at++;
            return c -> {
                for (Do d : all) {
                    d.run(c);
                }
            };
        }

        Do statement(int deep) {
            if (is("touch")) {
                at++;
                Token nt = t();
                name();
                want(";");
                int[] which = {-1};
                U me = unit;
                later.add(() -> which[0] = lateUnit(nt, me));
                return c -> {
                    step();
                    needed(c, which[0]);
                    touch(c, which[0]);
                };
            }
            if (is("order")) {
                at++;
                int d = deviceHere();
                Val e = expr(deep + 1);
                want(";");
                return c -> {
                    step();
                    order(c, d, e.get(c));
                };
            }
            if (is("check")) {
                at++;
                Val e = expr(deep + 1);
                want(";");
                return c -> {
                    step();
                    if (e.get(c) == 0) {
                        throw new RunFault(11);
                    }
                };
            }
            if (is("fail")) {
                at++;
                int n = number(1, 9);
                want(";");
                return c -> {
                    step();
                    throw new RunFault(n);
                };
            }
            if (is("if")) {
                at++;
                Val e = expr(deep + 1);
                Do yes = block(deep + 1);
                Do no = c -> {
                };
                if (is("else")) {
                    at++;
                    no = block(deep + 1);
                }
                Do or = no;
                return c -> {
                    step();
                    if (e.get(c) != 0) {
                        yes.run(c);
                    } else {
                        or.run(c);
                    }
                };
            }
            if (is("while")) {
                at++;
                Val e = expr(deep + 1);
                Do b = block(deep + 1);
                return c -> {
                    while (true) {
                        step();
                        if (e.get(c) == 0) {
                            return;
                        }
                        b.run(c);
                    }
                };
            }
            if (is("try")) {
                at++;
                Do b = block(deep + 1);
                want("on");
                Do h = block(deep + 1);
                return c -> {
                    step();
                    try {
                        b.run(c);
                    } catch (RunFault f) {
                        c.kind = f.row[0];
                        h.run(c);
                    }
                };
            }
            if (t().sort != 'w') {
                fault(1);
            }
            Place p = place(true);
            want("=");
            Val e = expr(deep + 1);
            want(";");
            return c -> {
                step();
                set(c, p.owner, p.rank, e.get(c));
            };
        }

        int deviceHere() {
            int d = devOf(t().text);
            faultIf(t().sort != 'w', d < 0, false, false, false, false);
            at++;
            return d;
        }

        int lateUnit(Token nt, U me) {
            int u = unitOf(nt.text);
            if (u < 0) {
                throw new TextFault(2, nt.place);
            }
            if (me != null) {
                me.names.add(u);
            }
            return u;
        }

        final class Place {
            int owner, rank = -1, number;

            void bind(U o, Token nt, boolean set) {
                if (o == null) {
                    throw new TextFault(2, nt.place);
                }
                owner = o.index;
                Object item = o.items.get(nt.text);
                if (item instanceof int[] r) {
                    rank = r[0];
                } else {
                    number = (Integer) item;
                    if (set) {
                        throw new TextFault(6, nt.place);
                    }
                }
            }
        }

        Place place(boolean set) {
            Place p = new Place();
            Token nt = t();
            U me = unit;
            if (toks.get(at + 1).sort == 's' && toks.get(at + 1).text.equals(".")) {
                at += 2;
                Token behind = t();
                name();
                later.add(() -> {
                    U u = s.units.get(lateUnit(nt, me));
                    p.bind(owner(s, u, behind.text), behind, set);
                });
                return p;
            }
            U o = me == null ? null : owner(s, me, nt.text);
            p.bind(o, nt, set);
            me.names.add(o.index);
            at++;
            return p;
        }

        Val expr(int deep) {
            Val a = sum(deep);
            if (is("<")) {
                at++;
                Val b = sum(deep);
                return c -> {
                    int x = a.get(c);
                    return x < b.get(c) ? 1 : 0;
                };
            }
            if (is("=")) {
                at++;
                Val b = sum(deep);
                return c -> {
                    int x = a.get(c);
                    return x == b.get(c) ? 1 : 0;
                };
            }
            return a;
        }

        Val sum(int deep) {
            Val a = product(deep);
            while (is("+") || is("-")) {
                boolean plus = is("+");
                at++;
                Val x = a;
                Val y = product(deep);
                a = c -> {
                    int l = x.get(c);
                    int r = y.get(c);
                    return plus ? l + r : l - r;
                };
            }
            return a;
        }

        Val product(int deep) {
            Val a = part(deep);
            while (is("*") || is("/") || is("%")) {
                String op = t().text;
                at++;
                Val x = a;
                Val y = part(deep);
                a = c -> {
                    int l = x.get(c);
                    int r = y.get(c);
                    if (op.equals("*")) {
                        return l * r;
                    }
                    if (r == 0) {
                        throw new RunFault(13);
                    }
                    return op.equals("/") ? l / r : l % r;
                };
            }
            return a;
        }

        Val part(int deep) {
            boolean word = t().sort == 'w';
            boolean starts = word || t().sort == 'n' || is("(") || is("-") || is("of") || is("kind") || is("beats");
            boolean alone = word && !toks.get(at + 1).text.equals(".");
            boolean lost = alone && (unit == null || owner(s, unit, t().text) == null);
            faultIf(!starts, lost, false, false, deep > 10, false);
            Val v = partBody(deep);
            return c -> {
                step();
                return v.get(c);
            };
        }

        Val partBody(int deep) {
            if (t().sort == 'n') {
                int n = number(0, 999999999);
                return c -> n;
            }
            if (is("(")) {
                at++;
                Val e = expr(deep + 1);
                want(")");
                return e;
            }
            if (is("-")) {
                at++;
                Val e = part(deep + 1);
                return c -> -e.get(c);
            }
            if (is("of")) {
                at++;
                int d = deviceHere();
                return c -> st.devs.get(d).place;
            }
            if (is("kind")) {
                at++;
                return c -> c.kind;
            }
            if (is("beats")) {
                at++;
                return c -> beat;
            }
            Place p = place(false);
            return c -> {
                needed(c, p.owner);
                if (p.rank < 0) {
                    return p.number;
                }
                touch(c, p.owner);
                U o = st.units.get(p.owner);
                if (!c.closing && o.state == 1 && c.unit != p.owner) {
                    halves.add(new int[] {c.unit, p.owner, p.rank});
                }
                return o.statics[p.rank];
            };
        }
    }

    // ---- runs

    void step() {
        if (left == 0 || stepsAll == 100000) {
            throw new NoSteps();
        }
        left--;
        stepsAll++;
    }

    void needed(Ctx c, int u) {
        if (!c.closing && c.unit >= 0 && c.unit != u && !st.units.get(c.unit).needs.contains(u)) {
            st.units.get(c.unit).needs.add(u);
        }
    }

    void set(Ctx c, int u, int rank, int value) {
        needed(c, u);
        touch(c, u);
        st.units.get(u).statics[rank] = value;
    }

    void order(Ctx c, int d, int v) {
        Dev dev = st.devs.get(d);
        boolean ok = v >= dev.from && v <= dev.to;
        orders.add(new int[] {c.unit, d, v, ok ? 1 : 0});
        if (!ok) {
            throw new RunFault(12);
        }
        dev.goal = v;
    }

    void touch(Ctx c, int index) {
        U u = st.units.get(index);
        if (c.closing || u.state == 1 || u.state == 2) {
            return;
        }
        if (u.state == 3) {
            throw new RunFault(21);
        }
        u.state = 1;
        try {
            if (u.base >= 0) {
                touch(c, u.base);
            }
            if (u.module) {
                climb(c, u);
            }
            if (plans.contains(index * 100 + u.edition)) {
                throw new RunFault(14);
            }
            Ctx mine = new Ctx(index, false);
            for (Do d : u.start) {
                d.run(mine);
            }
        } catch (RunFault f) {
            int[] row = f.row;
            if (row[0] != 20 && row[0] != 21) {
                row = new int[] {20, row[0]};
            }
            u.state = 3;
            u.cause = new ArrayList<>();
            for (int k : row) {
                u.cause.add(k);
            }
            throw new RunFault(row);
        } catch (NoSteps n) {
            u.state = 3;
            u.cause = new ArrayList<>(List.of(22));
            throw n;
        }
        u.state = 2;
        ups.add(new int[] {index, u.edition, nowDemand});
    }

    void climb(Ctx c, U u) {
        for (int r : u.roles) {
            U role = st.units.get(r);
            climb(c, role);
            if (role.acting) {
                touch(c, r);
            }
        }
    }

    int demand(int d, int n) {
        if (d < 0 || d >= st.demands.size() || n < 1 || n > 5000) {
            return 4;
        }
        if (shut) {
            return 5;
        }
        ended = new ArrayList<>();
        int before = stepsAll;
        int answer = doDemand(d, n, ended);
        latest = stepsAll - before;
        return answer;
    }

    private int doDemand(int d, int n, List<Integer> row) {
        left = n;
        nowDemand = d;
        try {
            st.demands.get(d).block.run(new Ctx(-1, false));
            return 0;
        } catch (RunFault f) {
            for (int k : f.row) {
                row.add(k);
            }
            return f.row[0] == 20 ? 1 : f.row[0] == 21 ? 2 : 3;
        } catch (NoSteps e) {
            return 6;
        }
    }

    int ended(int i) {
        return i >= 0 && i < ended.size() ? ended.get(i) : 0;
    }

    boolean plan(int u, int e) {
        if (u < 0 || u >= st.units.size() || e < 0 || e > 30) {
            return false;
        }
        if (!plans.contains(u * 100 + e) && plans.size() == 40) {
            return false;
        }
        plans.add(u * 100 + e);
        return true;
    }

    void clear() {
        plans.clear();
    }

    Set<Integer> leansOf(int u) {
        Set<Integer> all = new TreeSet<>();
        List<Integer> open = new ArrayList<>(direct(u));
        while (!open.isEmpty()) {
            int x = open.remove(open.size() - 1);
            if (all.add(x)) {
                open.addAll(direct(x));
            }
        }
        return all;
    }

    private Set<Integer> direct(int u) {
        U x = st.units.get(u);
        Set<Integer> d = new TreeSet<>(x.names);
        d.addAll(x.roles);
        if (x.base >= 0) {
            d.add(x.base);
        }
        return d;
    }

    int heal(int u) {
        if (u < 0 || u >= st.units.size() || shut) {
            return -1;
        }
        List<U> set = new ArrayList<>();
        for (U x : st.units) {
            if (x.index == u || leansOf(x.index).contains(u)) {
                set.add(x);
            }
        }
        for (U x : set) {
            if (x.edition == 30) {
                return -1;
            }
        }
        for (U x : set) {
            x.edition++;
            x.state = 0;
            x.statics = new int[8];
            x.needs.clear();
            x.cause.clear();
        }
        return set.size();
    }

    int close() {
        if (shut) {
            return -1;
        }
        List<U> order = new ArrayList<>();
        for (int[] row : ups) {
            U u = st.units.get(row[0]);
            if (u.state == 2) {
                order.remove(u);
                order.add(0, u);
            }
        }
        for (U u : order) {
            int kind = 0;
            if (u.closing != null) {
                left = 2000;
                try {
                    u.closing.run(new Ctx(u.index, true));
                } catch (RunFault f) {
                    kind = f.row[0];
                } catch (NoSteps e) {
                    kind = 22;
                }
            }
            u.state = 4;
            closings.add(new int[] {u.index, kind});
        }
        shut = true;
        return order.size();
    }

    int beat(int n) {
        if (n < 0 || n > 1000) {
            return -1;
        }
        for (int i = 0; i < n; i++) {
            for (Dev d : st.devs) {
                if (d.place < d.goal) {
                    d.place = Math.min(d.goal, d.place + d.pace);
                } else {
                    d.place = Math.max(d.goal, d.place - d.pace);
                }
            }
            beat++;
        }
        return beat;
    }

    int foresee(int d, int n) {
        if (d < 0 || d >= st.demands.size() || n < 1 || n > 5000 || shut) {
            return -1;
        }
        Map<U, Object[]> was = new HashMap<>();
        for (U u : st.units) {
            was.put(u, new Object[] {u.state, u.statics.clone(), new ArrayList<>(u.cause), new ArrayList<>(u.needs)});
        }
        int[] goals = new int[st.devs.size()];
        for (int i = 0; i < goals.length; i++) {
            goals[i] = st.devs.get(i).goal;
        }
        List<int[]> oldUps = new ArrayList<>(ups);
        List<int[]> oldHalves = new ArrayList<>(halves);
        List<int[]> oldOrders = new ArrayList<>(orders);
        doDemand(d, n, new ArrayList<>());
        foreseenList = new ArrayList<>();
        for (int[] row : ups.subList(oldUps.size(), ups.size())) {
            foreseenList.add(row[0]);
        }
        ups = oldUps;
        halves = oldHalves;
        orders = oldOrders;
        for (int i = 0; i < goals.length; i++) {
            st.devs.get(i).goal = goals[i];
        }
        for (U u : st.units) {
            Object[] o = was.get(u);
            u.state = (Integer) o[0];
            u.statics = (int[]) o[1];
            @SuppressWarnings("unchecked")
            List<Integer> cause = (List<Integer>) o[2];
            u.cause = cause;
            @SuppressWarnings("unchecked")
            List<Integer> needs = (List<Integer>) o[3];
            u.needs = needs;
        }
        return foreseenList.size();
    }

    int foreseen(int i) {
        return i >= 0 && i < foreseenList.size() ? foreseenList.get(i) : -1;
    }

    /** A row's what, or -1. */
    static int row(List<int[]> rows, int most, int i, int what) {
        if (i < 0 || i >= Math.min(most, rows.size()) || what < 0 || what >= rows.get(i).length) {
            return -1;
        }
        return rows.get(i)[what];
    }

    int count(int what) {
        int up = 0;
        int failed = 0;
        for (U u : st.units) {
            up += u.state == 2 ? 1 : 0;
            failed += u.state == 3 ? 1 : 0;
        }
        int[] all = {st.devs.size(), st.units.size(), st.demands.size(), up, failed, halves.size(), orders.size(),
            ups.size(), beat, stepsAll, latest, shut ? 1 : 0, plans.size(), tape.length()};
        return what < 0 || what >= all.length ? -1 : all[what];
    }

    /** null where there is none such. */
    Integer unit(int u, int what) {
        if (u < 0 || u >= st.units.size() || what < 0 || what > 7) {
            return null;
        }
        U x = st.units.get(u);
        return new int[] {x.state, x.edition, x.module ? 1 : 0, x.acting ? 1 : 0, x.base, x.roles.size(),
            x.staticCount(), x.items.size() - x.staticCount()}[what];
    }

    Integer read(int u, int k) {
        if (u < 0 || u >= st.units.size() || k < 0 || k >= st.units.get(u).staticCount()) {
            return null;
        }
        U x = st.units.get(u);
        return x.state == 0 ? 0 : x.statics[k];
    }

    int cause(int u, int i) {
        boolean there = u >= 0 && u < st.units.size() && i >= 0 && i < st.units.get(u).cause.size();
        return there ? st.units.get(u).cause.get(i) : 0;
    }

    int need(int u, int i) {
        boolean there = u >= 0 && u < st.units.size() && i >= 0 && i < st.units.get(u).needs.size();
        return there ? st.units.get(u).needs.get(i) : -1;
    }

    int leans(int u, int on) {
        int n = st.units.size();
        if (u < 0 || u >= n || on < 0 || on >= n) {
            return -1;
        }
        return leansOf(u).contains(on) ? 1 : 0;
    }

    Integer device(int d, int what) {
        if (d < 0 || d >= st.devs.size() || what < 0 || what > 1) {
            return null;
        }
        return what == 0 ? st.devs.get(d).place : st.devs.get(d).goal;
    }
}
