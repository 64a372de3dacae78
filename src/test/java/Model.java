import java.util.ArrayList;
import java.util.HashMap;
import java.util.HashSet;
import java.util.List;
import java.util.Map;
import java.util.Set;

/**
 * The document once more, word by word, with no regard to how long that takes: terms are trees, contractions copy them,
 * and reasons are thrown. ModelTest asks it what the desk has to answer. It knows no calls, only whole texts.
 */
final class Model {
    final List<String> verdicts = new ArrayList<>();
    final StringBuilder paper = new StringBuilder();
    final List<Global> globals = new ArrayList<>();
    int fuel = 5000;
    private int cost;

    /** A reason, an end of the fuel (reason 0), or a fault of the text (reason -1). */
    private static final class Stop extends RuntimeException {
        private static final long serialVersionUID = 1;
        final int reason;
        final int place;

        Stop(int reason, int place) {
            super(null, null, false, false);
            this.reason = reason;
            this.place = place;
        }
    }

    static final class Global {
        final int kind;
        final String name;
        Term type;
        Term value;
        int parameters;
        int parts;
        Global family;
        final List<Global> constructors = new ArrayList<>();
        boolean free;
        int sort;

        Global(int kind, String name) {
            this.kind = kind;
            this.name = name;
        }
    }

    /** A variable, where it is bound. */
    static final class Binder {
        final String name;
        Term type;
        Term value;
        int sort;

        Binder(String name) {
            this.name = name;
        }
    }

    enum Kind { VARIABLE, GLOBAL, SORT, REC, APPLY, FUN, ALL, LET, CAST }

    static final class Term {
        final Kind kind;
        int place;
        String name;
        Binder binder;
        Global global;
        int sort;
        Term first;
        Term second;
        Term told;
        // Of an application: its second part's head was reduced. Of a fun or all: its type was looked at with a name before.
        boolean done;

        Term(Kind kind) {
            this.kind = kind;
        }
    }

    private static Term variable(Binder binder) {
        Term t = new Term(Kind.VARIABLE);
        t.binder = binder;
        return t;
    }

    private static Term global(Global global) {
        Term t = new Term(Kind.GLOBAL);
        t.global = global;
        return t;
    }

    private static Term sort(int level) {
        Term t = new Term(Kind.SORT);
        t.sort = level;
        return t;
    }

    private static Term rec(Global family, int level) {
        Term t = new Term(Kind.REC);
        t.global = family;
        t.sort = level;
        return t;
    }

    private static Term apply(Term f, Term a) {
        Term t = new Term(Kind.APPLY);
        t.first = f;
        t.second = a;
        t.place = f.place;
        return t;
    }

    private static Term bind(Kind kind, Binder binder, Term type, Term body) {
        Term t = new Term(kind);
        t.binder = binder;
        t.first = type;
        t.second = body;
        return t;
    }

    // ---- The text.

    private byte[] text;
    private int at;
    private int start;
    private String token;

    private int byteAt(int i) {
        return i < text.length ? text[i] & 255 : -1;
    }

    private static boolean letter(int c) {
        return c >= 'A' && c <= 'Z' || c >= 'a' && c <= 'z' || c == '_';
    }

    private void skip() {
        while (at < text.length) {
            int c = byteAt(at);
            if (c == 9 || c == 10 || c == 13 || c == 32) {
                at++;
            } else if (c == '-' && byteAt(at + 1) == '-') {
                while (at < text.length && byteAt(at) != 10) {
                    at++;
                }
            } else if (c == '{' && byteAt(at + 1) == '-') {
                int open = 1;
                int i = at + 2;
                while (open > 0) {
                    if (i >= text.length) {
                        throw new Stop(-1, at);
                    }
                    if (byteAt(i) == '{' && byteAt(i + 1) == '-') {
                        open++;
                        i += 2;
                    } else if (byteAt(i) == '-' && byteAt(i + 1) == '}') {
                        open--;
                        i += 2;
                    } else {
                        i++;
                    }
                }
                at = i;
            } else {
                return;
            }
        }
    }

    /** The next token, "" being the end of the text. A remark or a name that is none throws when it is looked at. */
    private void next() {
        skip();
        start = at;
        int c = byteAt(at);
        if (c == -1) {
            token = "";
            return;
        }
        int length = 0;
        if (letter(c)) {
            while (letter(byteAt(at + length)) || byteAt(at + length) >= '0' && byteAt(at + length) <= '9' || byteAt(at + length) == '\'') {
                length++;
            }
            if (length > 40) {
                throw new Stop(-1, start);
            }
        } else {
            String two = "" + (char) c + (char) Math.max(0, byteAt(at + 1));
            length = two.equals(":=") || two.equals("=>") || two.equals("->") ? 2 : "():,.|".indexOf(c) >= 0 ? 1 : 0;
            if (length == 0) {
                throw new Stop(-1, start);
            }
        }
        StringBuilder read = new StringBuilder();
        for (int i = 0; i < length; i++) {
            read.append((char) byteAt(at + i));
        }
        token = read.toString();
        at += length;
    }

    private static boolean isSort(String token) {
        return token.equals("Prop") || token.matches("Type([0-9]|[1-9][0-9])?");
    }

    private static boolean isName(String token) {
        return token.matches("[A-Za-z_].*") && !isSort(token) && !token.matches("axiom|def|lemma|data|check|norm|fun|all|let|in|rec");
    }

    private Stop fault() {
        return new Stop(-1, start);
    }

    private void take(String wanted) {
        if (!token.equals(wanted)) {
            throw fault();
        }
        next();
    }

    private String takeName() {
        if (!isName(token)) {
            throw fault();
        }
        String name = token;
        next();
        return name;
    }

    private int takeSort() {
        if (!isSort(token)) {
            throw fault();
        }
        int level = token.equals("Prop") ? 0 : token.equals("Type") ? 1 : 1 + Integer.parseInt(token.substring(4));
        next();
        return level;
    }

    /** A group or several names with one type. */
    private static final class Group {
        final List<String> names = new ArrayList<>();
        Term type;
    }

    private static final class Declaration {
        String word;
        int place;
        String name;
        int namePlace;
        final List<Group> groups = new ArrayList<>();
        Term told;
        Term value;
        final List<String> constructors = new ArrayList<>();
        final List<Integer> constructorPlaces = new ArrayList<>();
        final List<Term> constructorTerms = new ArrayList<>();
        final List<Binder> parameters = new ArrayList<>();
    }

    private Group group(int depth) {
        Group group = new Group();
        do {
            group.names.add(takeName());
        } while (isName(token));
        take(":");
        group.type = term(depth);
        return group;
    }

    private Term term(int depth) {
        if (depth > 100) {
            throw fault();
        }
        int place = start;
        if (token.equals("fun") || token.equals("all")) {
            boolean fun = token.equals("fun");
            next();
            List<Group> groups = new ArrayList<>();
            if (token.equals("(")) {
                while (token.equals("(")) {
                    next();
                    groups.add(group(depth + 1));
                    take(")");
                }
            } else {
                groups.add(group(depth + 1));
            }
            take(fun ? "=>" : ",");
            return over(fun ? Kind.FUN : Kind.ALL, groups, term(depth), place);
        }
        if (token.equals("let")) {
            next();
            Term t = new Term(Kind.LET);
            t.place = place;
            t.name = takeName();
            if (token.equals(":")) {
                next();
                t.told = term(depth + 1);
            }
            take(":=");
            t.first = term(depth + 1);
            take("in");
            t.second = term(depth);
            return t;
        }
        Term t = atom(depth);
        while (isName(token) || isSort(token) || token.equals("rec") || token.equals("(")) {
            t = apply(t, atom(depth));
        }
        if (token.equals("->")) {
            next();
            Term all = bind(Kind.ALL, null, t, term(depth));
            all.place = t.place;
            return all;
        }
        return t;
    }

    /** The terms share the type of a group; all but the first one say that it was looked at. */
    private static Term over(Kind kind, List<Group> groups, Term end, int place) {
        Term t = end;
        for (int i = groups.size() - 1; i >= 0; i--) {
            for (int j = groups.get(i).names.size() - 1; j >= 0; j--) {
                t = bind(kind, null, groups.get(i).type, t);
                t.name = groups.get(i).names.get(j);
                t.done = j > 0;
                t.place = place;
            }
        }
        return t;
    }

    private Term atom(int depth) {
        int place = start;
        Term t;
        if (isName(token)) {
            t = new Term(Kind.VARIABLE);
            t.name = takeName();
        } else if (isSort(token)) {
            t = sort(takeSort());
        } else if (token.equals("rec")) {
            next();
            t = new Term(Kind.REC);
            t.told = new Term(Kind.GLOBAL);
            t.told.place = start;
            t.name = takeName();
            t.sort = takeSort();
        } else {
            take("(");
            Term inner = term(depth + 1);
            if (token.equals(":")) {
                next();
                t = new Term(Kind.CAST);
                t.first = inner;
                t.second = term(depth + 1);
                t.place = place;
                take(")");
                return t;
            }
            take(")");
            return inner;
        }
        t.place = place;
        return t;
    }

    private Declaration declaration() {
        Declaration d = new Declaration();
        d.word = token;
        d.place = start;
        if (token.equals("check") || token.equals("norm")) {
            next();
            d.value = term(1);
            if (d.word.equals("check") && token.equals(":")) {
                next();
                d.told = term(1);
            }
        } else if (token.matches("axiom|def|lemma|data")) {
            next();
            d.namePlace = start;
            d.name = takeName();
            while (token.equals("(")) {
                next();
                d.groups.add(group(1));
                take(")");
            }
            if (!d.word.equals("def") || !token.equals(":=")) {
                take(":");
                d.told = term(1);
            }
            if (d.word.equals("def") || d.word.equals("lemma")) {
                take(":=");
                d.value = term(1);
            }
            while (d.word.equals("data") && token.equals("|")) {
                next();
                d.constructorPlaces.add(start);
                d.constructors.add(takeName());
                take(":");
                d.constructorTerms.add(term(1));
            }
        } else {
            throw fault();
        }
        if (!token.equals(".")) {
            throw fault();
        }
        return d;
    }

    // ---- What names mean.

    private Global find(String name) {
        for (Global g : globals) {
            if (g.name.equals(name)) {
                return g;
            }
        }
        return null;
    }

    private void mean(Term t, Map<String, Binder> scope, Global own) {
        if (t == null) {
            return;
        }
        switch (t.kind) {
            case VARIABLE:
                t.binder = scope.get(t.name);
                if (t.binder == null) {
                    t.global = own != null && own.name.equals(t.name) ? own : find(t.name);
                    if (t.global == null) {
                        throw new Stop(1, t.place);
                    }
                }
                break;
            case REC:
                t.global = find(t.name);
                if (t.global == null || t.global.kind != 3) {
                    throw new Stop(12, t.told.place);
                }
                break;
            case APPLY:
            case CAST:
                mean(t.first, scope, own);
                mean(t.second, scope, own);
                break;
            case FUN:
            case ALL:
                if (!t.done) {
                    mean(t.first, scope, own);
                }
                t.binder = new Binder(t.name == null ? "x" : t.name);
                mean(t.second, t.name == null ? scope : with(scope, t), own);
                break;
            case LET:
                mean(t.told, scope, own);
                mean(t.first, scope, own);
                t.binder = new Binder(t.name);
                mean(t.second, with(scope, t), own);
                break;
            default:
                break;
        }
    }

    private static Map<String, Binder> with(Map<String, Binder> scope, Term t) {
        Map<String, Binder> inner = new HashMap<>(scope);
        inner.put(t.name, t.binder);
        return inner;
    }

    private void declare(String name, int place, Set<String> declared) {
        if (find(name) != null || !declared.add(name)) {
            throw new Stop(2, place);
        }
    }

    private void meanAll(Declaration d, Global own) {
        Set<String> declared = new HashSet<>();
        Map<String, Binder> scope = new HashMap<>();
        if (d.name != null) {
            declare(d.name, d.namePlace, declared);
        }
        for (Group group : d.groups) {
            mean(group.type, scope, null);
            for (String name : group.names) {
                Binder binder = new Binder(name);
                d.parameters.add(binder);
                scope.put(name, binder);
            }
        }
        mean(d.word.equals("check") ? null : d.told, scope, null);
        mean(d.value, scope, null);
        mean(d.word.equals("check") ? d.told : null, scope, null);
        for (int i = 0; i < d.constructors.size(); i++) {
            declare(d.constructors.get(i), d.constructorPlaces.get(i), declared);
            mean(d.constructorTerms.get(i), scope, own);
        }
    }

    /** all GROUPS , end or fun GROUPS => end. */
    private static Term inGroups(Kind kind, Declaration d, Term end) {
        Term t = over(kind, d.groups, end, d.place);
        Term node = t;
        for (Binder binder : d.parameters) {
            node.binder = binder;
            node = node.second;
        }
        return t;
    }

    // ---- Reckoning.

    private void charge(int n) {
        cost += n;
        if (cost > fuel) {
            throw new Stop(0, 0);
        }
    }

    /** A copy with terms for variables; every binder in it is new. */
    private static Term put(Term t, Map<Binder, Term> values) {
        switch (t.kind) {
            case VARIABLE:
                if (t.binder == null) {
                    return global(t.global);
                }
                return values.containsKey(t.binder) ? values.get(t.binder) : t;
            case CAST:
                return put(t.first, values);
            case APPLY:
                return apply(put(t.first, values), put(t.second, values));
            case FUN:
            case ALL:
            case LET:
                Binder fresh = new Binder(t.binder.name);
                Map<Binder, Term> inner = new HashMap<>(values);
                inner.put(t.binder, variable(fresh));
                Term copy = bind(t.kind, fresh, put(t.first, values), put(t.second, inner));
                copy.told = t.told == null ? null : put(t.told, values);
                return copy;
            default:
                return t;
        }
    }

    private static Term put(Term t, Binder binder, Term value) {
        Map<Binder, Term> values = new HashMap<>();
        if (binder != null) {
            values.put(binder, value);
        }
        return put(t, values);
    }

    private static List<Term> parts(Term t) {
        List<Term> all = new ArrayList<>();
        for (; t.kind == Kind.APPLY; t = t.first) {
            all.add(0, t.second);
        }
        return all;
    }

    private static Term base(Term t) {
        while (t.kind == Kind.APPLY) {
            t = t.first;
        }
        return t;
    }

    /** Reduces the head of a term that has been copied by put: it has no (T : U), and no global that is told by a name. */
    private Term head(Term t) {
        while (true) {
            if (t.kind == Kind.LET) {
                charge(1);
                t = put(t.second, t.binder, t.first);
            } else if (t.kind == Kind.VARIABLE && t.binder.value != null) {
                charge(1);
                t = put(t.binder.value, null, null);
            } else if (t.kind == Kind.GLOBAL && t.global.kind == 1) {
                charge(1);
                t = put(t.global.value, null, null);
            } else if (t.kind == Kind.APPLY) {
                charge(1);
                Term f = head(t.first);
                if (f.kind == Kind.FUN) {
                    charge(1);
                    t = put(f.second, f.binder, t.second);
                    continue;
                }
                if (base(f).kind != Kind.REC || parts(f).size() != partsOfRec(base(f).global) - 1) {
                    return apply(f, t.second);
                }
                Term a = head(t.second);
                Term made = base(a);
                if (made.kind != Kind.GLOBAL || made.global.kind != 4 || parts(a).size() != made.global.parameters + made.global.parts) {
                    Term stays = apply(f, a);
                    stays.done = true;
                    return stays;
                }
                charge(1);
                t = contract(f, a);
            } else {
                return t;
            }
        }
    }

    private static int partsOfRec(Global family) {
        return family.parameters + 1 + family.constructors.size() + family.parts + 1;
    }

    private static Term contract(Term f, Term a) {
        Global c = base(a).global;
        Global family = c.family;
        List<Term> given = parts(f);
        List<Term> made = parts(a);
        Term shared = base(f);
        for (int i = 0; i < family.parameters + 1 + family.constructors.size(); i++) {
            shared = apply(shared, given.get(i));
        }
        Term t = given.get(family.parameters + 1 + family.constructors.indexOf(c));
        for (int i = 0; i < c.parts; i++) {
            t = apply(t, made.get(c.parameters + i));
        }
        Map<Binder, Term> values = new HashMap<>();
        Term type = c.type;
        for (int i = 0; i < c.parameters; i++) {
            values.put(type.binder, given.get(i));
            type = type.second;
        }
        for (int i = 0; i < c.parts; i++) {
            Term argument = made.get(c.parameters + i);
            if (recursive(type.first, family)) {
                t = apply(t, call(put(type.first, values), shared, argument, family, Kind.FUN));
            }
            values.put(type.binder, argument);
            type = type.second;
        }
        return t;
    }

    private static boolean recursive(Term type, Global family) {
        Term end = type;
        while (end.kind == Kind.ALL) {
            end = end.second;
        }
        return base(end).kind == Kind.GLOBAL && base(end).global == family;
    }

    /** For A of the type all ys , D Ps Js: fun ys => (or all ys ,) the function put to Js and (A ys). */
    private static Term call(Term type, Term function, Term argument, Global family, Kind kind) {
        if (type.kind == Kind.ALL) {
            Term inner = call(type.second, function, apply(argument, variable(type.binder)), family, kind);
            return bind(kind, type.binder, type.first, inner);
        }
        Term t = function;
        List<Term> given = parts(type);
        for (int i = family.parameters; i < given.size(); i++) {
            t = apply(t, given.get(i));
        }
        return apply(t, argument);
    }

    private Term normal(Term t) {
        return normalParts(head(t));
    }

    private Term normalParts(Term t) {
        charge(1);
        switch (t.kind) {
            case APPLY:
                Term f = normalParts(t.first);
                return apply(f, t.done ? normalParts(t.second) : normal(t.second));
            case FUN:
            case ALL:
                Term type = normal(t.first);
                return bind(t.kind, t.binder, type, normal(t.second));
            default:
                return t;
        }
    }

    private Term normalForm(Term t) {
        return normal(put(t, null, null));
    }

    private static int nodes(Term t) {
        switch (t.kind) {
            case APPLY:
            case FUN:
            case ALL:
                return 1 + nodes(t.first) + nodes(t.second);
            case LET:
                return 1 + nodes(t.first) + nodes(t.second) + (t.told == null ? 0 : nodes(t.told));
            default:
                return 1;
        }
    }

    private static boolean fits(Term t, Term u, boolean same, Map<Binder, Binder> pairs) {
        if (t.kind != u.kind) {
            return false;
        }
        switch (t.kind) {
            case VARIABLE:
                return pairs.getOrDefault(t.binder, t.binder) == u.binder;
            case GLOBAL:
                return t.global == u.global;
            case REC:
                return t.global == u.global && t.sort == u.sort;
            case SORT:
                return same ? t.sort == u.sort : t.sort <= u.sort;
            case APPLY:
                return fits(t.first, u.first, true, pairs) && fits(t.second, u.second, true, pairs);
            default:
                Map<Binder, Binder> inner = new HashMap<>(pairs);
                inner.put(t.binder, u.binder);
                return fits(t.first, u.first, true, pairs) && fits(t.second, u.second, same || t.kind == Kind.FUN, inner);
        }
    }

    private static void needFit(Term t, Term u, Term named) {
        if (!fits(t, u, false, new HashMap<>())) {
            throw new Stop(5, named.place);
        }
    }

    // ---- Types.

    private Term told(Term type) {
        charge(nodes(type));
        return type;
    }

    private Term typeOf(Term t) {
        switch (t.kind) {
            case VARIABLE:
                return told(t.binder != null ? t.binder.type : t.global.type);
            case SORT:
                if (t.sort == 100) {
                    throw new Stop(6, t.place);
                }
                return sort(t.sort + 1);
            case REC:
                if (t.global.sort == 0 && t.sort != 0 && !t.global.free) {
                    throw new Stop(11, t.place);
                }
                if (t.sort == 100) {
                    throw new Stop(6, t.place);
                }
                return told(typeOfRec(t.global, t.sort));
            case APPLY:
                Term f = typeOf(t.first);
                if (f.kind != Kind.ALL) {
                    throw new Stop(4, t.first.place);
                }
                needFit(typeOf(t.second), f.first, t.second);
                return normal(put(f.second, f.binder, put(t.second, null, null)));
            case FUN:
                enter(t);
                return bind(Kind.ALL, t.binder, t.binder.type, typeOf(t.second));
            case ALL:
                enter(t);
                int level = sortOf(t.second);
                return sort(level == 0 ? 0 : Math.max(level, t.binder.sort));
            case LET:
                if (t.told != null) {
                    sortOf(t.told);
                    t.binder.type = normalForm(t.told);
                    needFit(typeOf(t.first), t.binder.type, t.first);
                } else {
                    t.binder.type = typeOf(t.first);
                }
                t.binder.value = t.first;
                return typeOf(t.second);
            default:
                sortOf(t.second);
                Term wanted = normalForm(t.second);
                needFit(typeOf(t.first), wanted, t.first);
                return wanted;
        }
    }

    private int sortOf(Term t) {
        Term type = typeOf(t);
        if (type.kind != Kind.SORT) {
            throw new Stop(3, t.place);
        }
        return type.sort;
    }

    private final Map<Term, Integer> looked = new HashMap<>();

    /** The type of several names is looked at once, with the first one; its normal form is made for each. */
    private void look(Binder binder, Term type, boolean again) {
        if (!again) {
            looked.put(type, sortOf(type));
        }
        binder.sort = looked.get(type);
    }

    private void enter(Term t) {
        look(t.binder, t.first, t.done);
        t.binder.type = normalForm(t.first);
    }

    private static Term typeOfRec(Global family, int level) {
        Map<Binder, Term> values = new HashMap<>();
        Term type = put(family.type, values);
        List<Term> parameters = new ArrayList<>();
        Term whole = global(family);
        for (int i = 0; i < family.parameters; i++) {
            parameters.add(type);
            whole = apply(whole, variable(type.binder));
            type = type.second;
        }
        Binder motive = new Binder("M");
        List<Term> alls = new ArrayList<>(parameters);
        Term forMotive = put(type, values);
        alls.add(bind(Kind.ALL, motive, overIndices(forMotive, whole, null, level), null));
        for (Global c : family.constructors) {
            Term made = c.type;
            Map<Binder, Term> own = new HashMap<>();
            Term put = global(c);
            for (Term parameter : parameters) {
                own.put(made.binder, variable(parameter.binder));
                put = apply(put, variable(parameter.binder));
                made = made.second;
            }
            alls.add(bind(Kind.ALL, new Binder("x"), caseOf(put(made, own), put, c.parts, motive, family, new ArrayList<>()), null));
        }
        Term t = overIndices(put(type, values), whole, motive, level);
        for (int i = alls.size() - 1; i >= 0; i--) {
            t = bind(Kind.ALL, alls.get(i).binder, alls.get(i).first, t);
        }
        return t;
    }

    /** all INDICES , D PARAMETERS INDICES -> s, or all INDICES , all x : D PARAMETERS INDICES , M INDICES x. */
    private static Term overIndices(Term indices, Term whole, Binder motive, int level) {
        if (indices.kind == Kind.ALL) {
            Term index = variable(indices.binder);
            return bind(Kind.ALL, indices.binder, indices.first, overIndices(indices.second, apply(whole, index), motive, level));
        }
        Binder last = new Binder("x");
        if (motive == null) {
            return bind(Kind.ALL, last, whole, sort(level));
        }
        Term end = variable(motive);
        List<Term> given = parts(whole);
        for (int i = base(whole).global.parameters; i < given.size(); i++) {
            end = apply(end, given.get(i));
        }
        return bind(Kind.ALL, last, whole, apply(end, variable(last)));
    }

    private static Term caseOf(Term type, Term put, int arguments, Binder motive, Global family, List<Term> premises) {
        if (arguments > 0) {
            List<Term> more = new ArrayList<>(premises);
            if (recursive(type.first, family)) {
                more.add(call(put(type.first, new HashMap<>()), variable(motive), variable(type.binder), family, Kind.ALL));
            }
            Term inner = caseOf(type.second, apply(put, variable(type.binder)), arguments - 1, motive, family, more);
            return bind(Kind.ALL, type.binder, type.first, inner);
        }
        Term t = variable(motive);
        List<Term> given = parts(type);
        for (int i = family.parameters; i < given.size(); i++) {
            t = apply(t, given.get(i));
        }
        t = apply(t, put);
        for (int i = premises.size() - 1; i >= 0; i--) {
            t = bind(Kind.ALL, new Binder("x"), premises.get(i), t);
        }
        return t;
    }

    // ---- Declarations.

    void end(String source) {
        text = source.getBytes(java.nio.charset.StandardCharsets.ISO_8859_1);
        at = 0;
        verdicts.clear();
        try {
            next();
            while (!token.isEmpty()) {
                check(declaration());
                next();
            }
        } catch (Stop fault) {
            verdicts.add("unreadable at " + fault.place);
        }
    }

    private void check(Declaration d) {
        int length = paper.length();
        int count = globals.size();
        cost = 0;
        looked.clear();
        try {
            List<Global> come = new ArrayList<>();
            Global own = d.word.equals("data") ? new Global(3, d.name) : null;
            meanAll(d, own);
            if (d.word.equals("data")) {
                family(d, own, come);
            } else if (d.word.equals("check") || d.word.equals("norm")) {
                question(d);
            } else {
                definition(d, come);
            }
            globals.addAll(come);
            int nodes = 0;
            for (Global g : globals) {
                nodes += nodes(g.type) + (g.value == null ? 0 : nodes(g.value));
            }
            if (globals.size() > 1000 || nodes > 20000) {
                throw new Stop(13, d.place);
            }
            verdicts.add("accepted " + cost);
        } catch (Stop stop) {
            if (stop.reason == -1) {
                throw stop;
            }
            paper.setLength(length);
            while (globals.size() > count) {
                globals.remove(count);
            }
            verdicts.add(stop.reason == 0 ? "out" : "refused " + stop.reason + " at " + stop.place);
        }
    }

    private void question(Declaration d) {
        if (d.told != null) {
            Term cast = new Term(Kind.CAST);
            cast.first = d.value;
            cast.second = d.told;
            typeOf(cast);
            return;
        }
        Term type = typeOf(d.value);
        if (!printLine(d.word.equals("norm") ? normalForm(d.value) : type)) {
            throw new Stop(14, d.place);
        }
    }

    private void definition(Declaration d, List<Global> come) {
        Global g = new Global(d.word.equals("axiom") ? 0 : d.word.equals("def") ? 1 : 2, d.name);
        if (d.told != null) {
            Term type = inGroups(Kind.ALL, d, d.told);
            if (typeOf(type).kind != Kind.SORT) {
                throw new Stop(3, d.told.place);
            }
            g.type = normalForm(type);
        }
        if (d.value != null) {
            Term value = inGroups(Kind.FUN, d, d.value);
            Term type = typeOf(value);
            if (g.type == null) {
                g.type = type;
            }
            needFit(type, g.type, d.value);
            g.value = put(value, null, null);
        }
        come.add(g);
    }

    private static Term behindAll(Term t) {
        while (t.kind == Kind.ALL) {
            t = t.second;
        }
        return t;
    }

    private static Term overBinders(List<Binder> binders, Term end) {
        Term t = end;
        for (int i = binders.size() - 1; i >= 0; i--) {
            t = bind(Kind.ALL, binders.get(i), binders.get(i).type, t);
        }
        return t;
    }

    private void family(Declaration d, Global own, List<Global> come) {
        int number = 0;
        for (Group group : d.groups) {
            for (int j = 0; j < group.names.size(); j++) {
                Binder binder = d.parameters.get(number++);
                look(binder, group.type, j > 0);
                binder.type = normalForm(group.type);
            }
        }
        Term end = behindAll(d.told);
        if (end.kind != Kind.SORT) {
            throw new Stop(9, d.told.place);
        }
        List<Binder> telescope = new ArrayList<>(d.parameters);
        for (Term t = d.told; t.kind == Kind.ALL; t = t.second) {
            enter(t);
            telescope.add(t.binder);
        }
        if (end.sort == 100) {
            throw new Stop(6, end.place);
        }
        own.type = overBinders(telescope, end);
        own.parameters = d.parameters.size();
        own.parts = telescope.size() - own.parameters;
        own.sort = end.sort;
        come.add(own);
        boolean proofs = true;
        for (int i = 0; i < d.constructors.size(); i++) {
            proofs = constructor(d, i, own, come) && proofs;
        }
        own.free = own.sort != 0 || own.constructors.isEmpty() || own.constructors.size() == 1 && proofs;
    }

    private boolean constructor(Declaration d, int i, Global own, List<Global> come) {
        Term term = d.constructorTerms.get(i);
        Term made = behindAll(term);
        if (!isApplied(made, d, own)) {
            throw new Stop(8, term.place);
        }
        List<Binder> telescope = new ArrayList<>(d.parameters);
        boolean proofs = true;
        for (Term t = term; t.kind == Kind.ALL; t = t.second) {
            look(t.binder, t.first, t.done);
            if (own.sort != 0 && t.binder.sort > own.sort) {
                throw new Stop(10, t.first.place);
            }
            proofs = proofs && t.binder.sort == 0;
            t.binder.type = normalForm(t.first);
            if (!positive(t.binder.type, d, own)) {
                throw new Stop(7, t.first.place);
            }
            telescope.add(t.binder);
        }
        typeOf(made);
        Global c = new Global(4, d.constructors.get(i));
        c.type = overBinders(telescope, normalForm(made));
        c.parameters = own.parameters;
        c.parts = telescope.size() - own.parameters;
        c.family = own;
        own.constructors.add(c);
        come.add(c);
        return proofs;
    }

    private static boolean isApplied(Term t, Declaration d, Global own) {
        List<Term> given = parts(t);
        if (base(t).global != own || base(t).kind == Kind.REC || given.size() != own.parameters + own.parts) {
            return false;
        }
        for (int i = 0; i < own.parameters; i++) {
            if (given.get(i).kind != Kind.VARIABLE || given.get(i).binder != d.parameters.get(i)) {
                return false;
            }
        }
        return true;
    }

    private static boolean positive(Term t, Declaration d, Global own) {
        if (!isIn(own, t)) {
            return true;
        }
        Term end = t;
        for (; end.kind == Kind.ALL; end = end.second) {
            if (isIn(own, end.first)) {
                return false;
            }
        }
        if (!isApplied(end, d, own)) {
            return false;
        }
        for (int i = 0; i < own.parts; i++) {
            if (isIn(own, parts(end).get(own.parameters + i))) {
                return false;
            }
        }
        return true;
    }

    private static boolean isIn(Global g, Term t) {
        if (t == null) {
            return false;
        }
        return t.global == g || isIn(g, t.first) || isIn(g, t.second) || isIn(g, t.told);
    }

    // ---- What is printed.

    boolean printLine(Term t) {
        String line = print(t, new HashMap<>()) + "/";
        if (paper.length() + line.length() > 32768) {
            return false;
        }
        paper.append(line);
        return true;
    }

    private static String sortName(int level) {
        return level == 0 ? "Prop" : "Type" + (level - 1);
    }

    private static String bracketed(Term t, Map<Binder, String> names, boolean bracketed) {
        return bracketed ? "(" + print(t, names) + ")" : print(t, names);
    }

    private static String print(Term t, Map<Binder, String> names) {
        switch (t.kind) {
            case VARIABLE:
                return names.get(t.binder);
            case GLOBAL:
                return t.global.name;
            case SORT:
                return sortName(t.sort);
            case REC:
                return "rec " + t.global.name + " " + sortName(t.sort);
            case APPLY:
                return bracketed(t.first, names, t.first.kind == Kind.FUN || t.first.kind == Kind.ALL) + " "
                        + bracketed(t.second, names, t.second.kind.compareTo(Kind.APPLY) >= 0);
            default:
                Set<String> taken = new HashSet<>();
                boolean used = collect(t.second, t.binder, names, taken);
                if (t.kind == Kind.ALL && !used) {
                    return bracketed(t.first, names, t.first.kind == Kind.FUN || t.first.kind == Kind.ALL) + " -> " + print(t.second, names);
                }
                String name = t.binder.name;
                for (int i = 1; taken.contains(name); i++) {
                    name = t.binder.name + i;
                }
                Map<Binder, String> inner = new HashMap<>(names);
                inner.put(t.binder, name);
                return (t.kind == Kind.FUN ? "fun " : "all ") + name + ": " + print(t.first, names)
                        + (t.kind == Kind.FUN ? " => " : ", ") + print(t.second, inner);
        }
    }

    /** Whether the variable is in a term; what else is printed with a name in it is collected. */
    private static boolean collect(Term t, Binder own, Map<Binder, String> names, Set<String> taken) {
        switch (t.kind) {
            case VARIABLE:
                if (t.binder != own && names.containsKey(t.binder)) {
                    taken.add(names.get(t.binder));
                }
                return t.binder == own;
            case GLOBAL:
                taken.add(t.global.name);
                return false;
            case APPLY:
                return collect(t.first, own, names, taken) | collect(t.second, own, names, taken);
            case FUN:
            case ALL:
                boolean inType = collect(t.first, own, names, taken);
                // A variable that is bound in here again is another one.
                if (t.binder == own) {
                    return inType;
                }
                Map<Binder, String> inner = new HashMap<>(names);
                inner.remove(t.binder);
                return inType | collect(t.second, own, inner, taken);
            default:
                return false;
        }
    }

    // ---- What is asked of globals.

    int about(int g, int what) {
        Global global = globals.get(g);
        switch (what) {
            case 0: return global.kind;
            case 1: return nodes(global.type);
            case 2: return global.parameters;
            case 3: return global.parts;
            case 4: return global.kind == 4 ? globals.indexOf(global.family) : global.constructors.size();
            default: return global.kind == 3 && global.free ? 1 : 0;
        }
    }

    private void mentioned(Term t, Set<Global> all) {
        if (t != null) {
            if (t.global != null) {
                all.add(t.global);
            }
            mentioned(t.first, all);
            mentioned(t.second, all);
            mentioned(t.told, all);
        }
    }

    /** All globals on which one leans. */
    Set<Global> leans(Global g) {
        Set<Global> all = new HashSet<>();
        List<Global> open = new ArrayList<>();
        open.add(g);
        for (int i = 0; i < open.size(); i++) {
            Set<Global> found = new HashSet<>();
            Global family = open.get(i).kind == 4 ? open.get(i).family : open.get(i);
            mentioned(family.type, found);
            mentioned(family.value, found);
            for (Global c : family.constructors) {
                mentioned(c.type, found);
            }
            for (Global other : found) {
                if (all.add(other)) {
                    open.add(other);
                }
            }
        }
        return all;
    }

    int forget(int g) {
        if (g < 0 || g > globals.size() || g < globals.size() && globals.get(g).kind == 4) {
            return -1;
        }
        int went = globals.size() - g;
        while (globals.size() > g) {
            globals.remove(g);
        }
        return went;
    }
}
