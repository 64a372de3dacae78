import java.util.ArrayList;
import java.util.List;

/** Texts made at random, always the same ones: what the desk answers is what the model of the document answers. */
public final class ModelTest {
    private static final int TEXTS = Integer.getInteger("texts", 250);
    private static long seed = Long.getLong("seed", 20261115L);

    private static final String[] LIBRARY = {
        "axiom A: Type.", "axiom a: A.", "axiom f: A -> A.", "axiom g: A -> A -> A.", "axiom p: Prop.", "axiom h: p.", "axiom x: A.", "axiom x1: A.",
        "data N: Type | z: N | s: N -> N.", "data O: Prop | l: O | r: O.", "data E: Prop.", "data U: Prop | u: p -> U.",
        "data L (T: Type): Type | nil: L T | cons: T -> L T -> L T.",
        "data eq (T: Type) (t: T): T -> Prop | refl: eq T t t.",
        "data V (T: Type): N -> Type | vn: V T z | vc: all n: N, T -> V T n -> V T (s n).",
        "data W (T: Type) (F: T -> Type): Type | sup: all t: T, (F t -> W T F) -> W T F.",
        "data X: Type1 | mk: all (T: Type) (t: T), (N -> X) -> X -> X.",
        "def id (T: Type) (t: T): T := t.",
        "def add (n m: N): N := rec N Type (fun x: N => N) m (fun (p: N) (r: N) => s r) n.",
        "def two := s (s z).",
        "lemma q: eq N (add two z) two := refl N two.",
        "def len (T: Type) (k: L T): N := rec L Type T (fun x: L T => N) z (fun (t: T) (k: L T) (r: N) => s r) k.",
        "def cast (B C: Type) (e: eq Type B C) (b: B): C := b.",
        "def k (B C: Type) := fun (b: B) (c: C) => b.",
        "def vlen (T: Type) (n: N) (v: V T n): N := rec V Type T (fun (m: N) (w: V T m) => N) z (fun (m: N) (t: T) (w: V T m) (r: N) => s r) n v.",
        "def K (X Y: Type) := X.", "def w := let t: K A N := a in (f t: K A O).", "axiom i: Type -> A.", "data J: A -> Type | j: J (i (J a)).", "check rec J Type.",
        "norm fun x: A => (fun y: A => fun x: A => g x y) x.",
        "norm add two (s two).", "check rec V Type.", "check rec W Prop.", "check rec X Type2.", "check add.", "norm fun n m: N => add (s n) m.",
        "norm rec W Type A (fun t: A => A) (fun w: W A (fun t: A => A) => N) (fun (t: A) (i: A -> W A (fun t: A => A)) (r: A -> N) => s (r t)).",
        "norm vlen A (s z) (vc A z a (vn A)).", "check let y := two in refl N y: eq N two (add y z).",
        "norm let y: N := two in add y y.", "axiom m (B: Type) (b c: B): eq B b c -> eq B c b.", "check m N two two (refl N two).",
    };
    private static final String[] TOKENS = {"(", ")", ":", ":=", "=>", "->", ",", ".", "|", "fun", "all", "let", "in", "rec", "Prop", "Type", "Type1",
        "Type98", "Type99", "axiom", "def", "lemma", "data", "check", "norm", "A", "a", "f", "g", "p", "h", "N", "z", "s", "x", "y", "T", "D", "c", "eq",
        "refl", "L", "nil", "M", "x1", "two", "add", "O", "-", "{-", "-}", "--", "\n", "#", "Type07"};

    public static void main(String[] args) throws InterruptedException {
        // The model calls itself for each part of a term, so it needs much stack.
        Thread deep = new Thread(null, ModelTest::run, "deep", 1L << 27);
        deep.setUncaughtExceptionHandler((thread, thrown) -> Bench.due("what was thrown", thrown.toString(), "nothing"));
        deep.start();
        deep.join();
        Bench.close("ModelTest");
    }

    private static void run() {
        for (int i = 0; i < TEXTS; i++) {
            changed();
            typed();
            wild();
            families();
        }
    }

    private static int random(int bound) {
        seed = seed * 6364136223846793005L + 1442695040888963407L;
        return (int) ((seed >>> 33) % bound);
    }

    private static String one(String... choices) {
        return choices[random(choices.length)];
    }

    /** A desk and a model, to which the same is done. */
    private static final class Pair {
        final Bench bench = new Bench();
        final Model model = new Model();

        void fuel(int n) {
            Bench.due("fuel", bench.fuel(n), model.fuel);
            model.fuel = n;
        }

        void end(String text) {
            model.end(text);
            String verdicts = bench.verdicts(text);
            Bench.due(text + "\n with fuel " + model.fuel + ", its verdicts", verdicts, String.join("; ", model.verdicts));
        }

        void compare(String what) {
            Bench.due(what + "\n its paper", bench.read(), model.paper.toString());
            Bench.due(what + "\n its globals", bench.globals(), model.globals.size());
            for (int g = 0; g < model.globals.size(); g++) {
                StringBuilder got = new StringBuilder();
                StringBuilder want = new StringBuilder();
                for (int i = 0; i < 6; i++) {
                    got.append(bench.about(g, i)).append(' ');
                    want.append(model.about(g, i)).append(' ');
                }
                for (int i = 0; i < model.globals.size(); i++) {
                    got.append(bench.leans(g, i) ? '+' : '.');
                    want.append(model.leans(model.globals.get(g)).contains(model.globals.get(i)) ? '+' : '.');
                }
                Bench.due(what + "\n about " + model.globals.get(g).name, got.toString(), want.toString());
            }
        }

        /** The types of all globals. */
        void show(String what) {
            bench.tear();
            model.paper.setLength(0);
            for (int g = 0; g < model.globals.size(); g++) {
                bench.show(g);
                model.printLine(model.globals.get(g).type);
            }
            Bench.due(what + "\n its types", bench.torn(), model.paper.toString());
            model.paper.setLength(0);
        }

        void forget(int g) {
            Bench.due("forget(" + g + ")", bench.forget(g), model.forget(g));
        }
    }

    private static Pair withLibrary() {
        Pair pair = new Pair();
        StringBuilder text = new StringBuilder();
        for (String declaration : LIBRARY) {
            if (!declaration.startsWith("norm") && !declaration.startsWith("check") && random(12) > 0) {
                text.append(declaration).append(' ');
            }
        }
        pair.fuel(10000);
        pair.end(text.toString());
        return pair;
    }

    /** The fuel at hand, or just enough for one of the declarations of the text, or one less. */
    private static void nearlyEnough(Pair pair, String text) {
        Model other = new Model();
        other.fuel = 10000;
        other.globals.addAll(pair.model.globals);
        other.end(text);
        if (other.verdicts.isEmpty()) {
            return;
        }
        String verdict = one(other.verdicts.toArray(new String[0]));
        int cost = verdict.startsWith("accepted ") ? Integer.parseInt(verdict.substring(9)) : 1 + random(60);
        pair.fuel(Math.max(1, cost - random(2)));
    }

    private static void changed() {
        StringBuilder text = new StringBuilder();
        int from = random(5) == 0 ? random(LIBRARY.length) : 0;
        for (int i = from; i < LIBRARY.length && text.length() < 1500; i++) {
            if (random(9) > 0) {
                text.append(random(3) == 0 ? changed(LIBRARY[i]) : LIBRARY[i]).append(one(" ", "", "\n", " {- x -} ", "\t--.\n"));
            }
        }
        Pair pair = new Pair();
        pair.fuel(random(3) == 0 ? 1 + random(120) : 1 + random(10000));
        pair.end(text.toString());
        pair.compare(text.toString());
        pair.forget(random(pair.model.globals.size() + 2) - 1);
        pair.show(text.toString());
        pair.end(text.toString());
        pair.compare(text.toString());
    }

    /** A declaration with a token or two more, less, or other ones. */
    private static String changed(String declaration) {
        List<String> tokens = new ArrayList<>(List.of(declaration.split("(?<=[^A-Za-z0-9_'])|(?=[^A-Za-z0-9_'])")));
        for (int i = random(3); i >= 0; i--) {
            int at = random(tokens.size());
            switch (random(5)) {
                case 0: tokens.remove(at); break;
                case 1: tokens.add(at, " " + one(TOKENS) + " "); break;
                case 2: tokens.set(at, tokens.get(random(tokens.size()))); break;
                case 3: tokens.set(at, " " + one(TOKENS) + " "); break;
                default: tokens.add(at, tokens.get(random(tokens.size()))); break;
            }
            if (tokens.isEmpty()) {
                return "";
            }
        }
        return String.join("", tokens);
    }

    // Terms of a wanted type. Types are texts; variables are lists of name and type.

    private static String type(int depth) {
        if (depth > 0 && random(3) == 0) {
            return "(" + type(depth - 1) + " -> " + type(depth - 1) + ")";
        }
        return one("A", "N", "p", "N", "(L N)", "(L A)", "O");
    }

    private static String term(String type, List<String[]> scope, int depth) {
        List<String> simple = new ArrayList<>();
        for (int i = scope.size() - 1; i >= 0; i--) {
            boolean hidden = false;
            for (int j = i + 1; j < scope.size(); j++) {
                hidden |= scope.get(j)[0].equals(scope.get(i)[0]);
            }
            if (scope.get(i)[1].equals(type) && !hidden) {
                simple.add(scope.get(i)[0]);
            }
        }
        if (depth <= 0 && !simple.isEmpty() && random(3) > 0) {
            return simple.get(random(simple.size()));
        }
        int arrow = arrowOf(type);
        if (arrow > 0 && (depth <= 0 || random(3) > 0)) {
            String name = one("x", "y", "x1", "n", "M", "v");
            String from = type.substring(1, arrow);
            List<String[]> inner = new ArrayList<>(scope);
            inner.add(new String[] {name, from});
            return "(fun " + name + ": " + from + " => " + term(type.substring(arrow + 4, type.length() - 1), inner, depth - 1) + ")";
        }
        if (depth > 0) {
            switch (random(8)) {
                case 0: {
                    String from = type(1);
                    String name = one("x", "y", "w");
                    List<String[]> inner = new ArrayList<>(scope);
                    inner.add(new String[] {name, from});
                    return "((fun " + name + ": " + from + " => " + term(type, inner, depth - 1) + ") " + term(from, scope, depth - 1) + ")";
                }
                case 1: {
                    String from = type(1);
                    String name = one("x", "y", "w");
                    List<String[]> inner = new ArrayList<>(scope);
                    inner.add(new String[] {name, from});
                    return "(let " + name + (random(2) == 0 ? "" : ": " + from) + " := " + term(from, scope, depth - 1) + " in "
                            + term(type, inner, depth - 1) + ")";
                }
                case 2: return "(" + term(type, scope, depth - 1) + ": " + type + ")";
                case 3: {
                    String from = type(1);
                    return "(" + term("(" + from + " -> " + type + ")", scope, depth - 1) + " " + term(from, scope, depth - 1) + ")";
                }
                case 4: return "(rec N " + one("Type", "Type1") + " (fun x: N => " + type + ") " + term(type, scope, depth - 1) + " "
                        + term("(N -> (" + type + " -> " + type + "))", scope, depth - 1) + " " + term("N", scope, depth - 1) + ")";
                case 5: return "(rec L Type A (fun y: L A => " + type + ") " + term(type, scope, depth - 1) + " "
                        + term("(A -> ((L A) -> (" + type + " -> " + type + ")))", scope, depth - 1) + " " + term("(L A)", scope, depth - 1) + ")";
                case 6: return "(id " + type + " " + term(type, scope, depth - 1) + ")";
                default: break;
            }
        }
        if (!simple.isEmpty() && random(2) == 0) {
            return simple.get(random(simple.size()));
        }
        switch (type) {
            case "A": return depth > 0 ? one("(f ", "(g a ") + term("A", scope, depth - 1) + ")" : one("a", "x1", "a");
            case "N": return depth > 0 ? one("(s ", "(add two ") + term("N", scope, depth - 1) + ")" : one("z", "two");
            case "p": return "h";
            case "O": return one("l", "r");
            case "(L N)": return depth > 0 ? "(cons N " + term("N", scope, depth - 1) + " " + term(type, scope, depth - 1) + ")" : "(nil N)";
            case "(L A)": return depth > 0 ? "(cons A " + term("A", scope, depth - 1) + " " + term(type, scope, depth - 1) + ")" : "(nil A)";
            default: return simple.isEmpty() ? "(fun x: A => x)" : simple.get(0);
        }
    }

    /** Where the arrow of a type in brackets stands, or 0. */
    private static int arrowOf(String type) {
        int open = 0;
        for (int i = 0; i < type.length(); i++) {
            open += type.charAt(i) == '(' ? 1 : type.charAt(i) == ')' ? -1 : 0;
            if (open == 1 && type.startsWith(" -> ", i)) {
                return i;
            }
        }
        return 0;
    }

    private static void typed() {
        Pair pair = withLibrary();
        StringBuilder text = new StringBuilder();
        for (int i = 0; i < 4; i++) {
            String type = type(2);
            String term = term(type, new ArrayList<>(), 2 + random(3));
            if (term.length() > 1200) {
                continue;
            }
            switch (random(6)) {
                case 0: text.append("check ").append(term).append(". "); break;
                case 1: text.append("check ").append(term).append(": ").append(type).append(". "); break;
                case 2: text.append("def d").append(i).append(" := ").append(term).append(". norm d").append(i).append(". "); break;
                case 3: text.append("lemma d").append(i).append(": ").append(type).append(" := ").append(term).append(". "); break;
                case 4: text.append("check refl ").append(type).append(' ').append(term).append(". "); break;
                default: text.append("norm ").append(term).append(". "); break;
            }
        }
        if (random(2) == 0) {
            nearlyEnough(pair, text.toString());
        }
        pair.end(text.toString());
        pair.compare(text.toString());
        pair.show(text.toString());
    }

    // Terms of no wanted type.

    private static String wildTerm(int depth) {
        if (depth <= 0 || random(4) == 0) {
            return one("A", "a", "f", "x", "y", "T", "N", "z", "s", "Prop", "Type", "Type1", "p", "h", "rec N Prop", "rec O Type", "Type99", "x", "y", "two");
        }
        switch (random(9)) {
            case 0: return "(fun " + one("x", "y", "T") + ": " + wildTerm(depth - 1) + " => " + wildTerm(depth - 1) + ")";
            case 1: return "(all " + one("x", "y", "T") + ": " + wildTerm(depth - 1) + ", " + wildTerm(depth - 1) + ")";
            case 2: return "(let " + one("x", "y", "T") + " := " + wildTerm(depth - 1) + " in " + wildTerm(depth - 1) + ")";
            case 3: return "(" + wildTerm(depth - 1) + " -> " + wildTerm(depth - 1) + ")";
            case 4: return "(" + wildTerm(depth - 1) + ": " + wildTerm(depth - 1) + ")";
            case 5: return "(fun (x y: " + wildTerm(depth - 1) + ") (T: " + wildTerm(depth - 1) + ") => " + wildTerm(depth - 1) + ")";
            case 6: return "(let " + one("x", "y") + ": " + wildTerm(depth - 1) + " := " + wildTerm(depth - 1) + " in " + wildTerm(depth - 1) + ")";
            default: return "(" + wildTerm(depth - 1) + " " + wildTerm(depth - 1) + ")";
        }
    }

    private static void wild() {
        Pair pair = withLibrary();
        StringBuilder text = new StringBuilder();
        for (int i = 0; i < 12 && text.length() < 1500; i++) {
            String groups = random(2) == 0 ? "" : " (x" + one("", " y") + ": " + wildTerm(1) + ")" + one("", " (T: Type)", " (y: x)");
            switch (random(5)) {
                case 0: text.append("check ").append(wildTerm(3)).append(". "); break;
                case 1: text.append("norm ").append(wildTerm(3)).append(". "); break;
                case 2: text.append("axiom d").append(i).append(groups).append(": ").append(wildTerm(2)).append(". "); break;
                case 3: text.append("def d").append(i).append(groups).append(" := ").append(wildTerm(2)).append(". "); break;
                default: text.append("def d").append(i).append(groups).append(": ").append(wildTerm(2)).append(" := ").append(wildTerm(2)).append(". "); break;
            }
        }
        if (random(3) == 0) {
            nearlyEnough(pair, text.toString());
        }
        pair.end(text.toString());
        pair.compare(text.toString());
        pair.show(text.toString());
    }

    // Families of many shapes.

    private static String argument(String family, int indices) {
        String whole = family + (indices == 0 ? "" : " " + one("z", "(s z)", "n", "two"));
        switch (random(10)) {
            case 0: return "A -> ";
            case 1: return "all n: N, ";
            case 2: return "(" + whole + ") -> ";
            case 3: return "(N -> " + whole + ") -> ";
            case 4: return "(all i j: N, " + whole + ") -> ";
            case 5: return "T -> ";
            case 6: return "(" + whole + " -> A) -> ";
            case 7: return one("Prop", "Type", "p", "Type1") + " -> ";
            case 8: return "all (e: A) (d: " + whole + "), ";
            default: return "all n w: N, ";
        }
    }

    private static void families() {
        Pair pair = withLibrary();
        StringBuilder text = new StringBuilder();
        for (int i = 0; i < 3; i++) {
            String name = "D" + i;
            boolean parameter = random(2) == 0;
            int indices = random(2);
            String family = parameter ? name + " T" : name;
            text.append("data ").append(name).append(parameter ? " (T: Type)" : "").append(": ").append(indices == 0 ? "" : one("N -> ", "all n: N, "))
                    .append(one("Prop", "Type", "Type", "Type1", "Type2"));
            for (int c = random(4); c > 0; c--) {
                text.append(" | c").append(i).append(c).append(": ");
                for (int j = random(4); j > 0; j--) {
                    text.append(argument(family, indices));
                }
                text.append(family).append(indices == 0 ? "" : " " + one("z", "n", "(s n)", "two")).append(random(20) == 0 ? " a" : "");
            }
            text.append(". check rec ").append(name).append(one(" Prop", " Type", " Type3")).append(". ");
            text.append("norm fun (M: ").append(name).append(parameter ? " N" : "").append(indices == 0 ? "" : " z").append(") => rec ").append(name)
                    .append(" Prop").append(parameter ? " N" : "").append(". ");
        }
        if (random(3) == 0) {
            nearlyEnough(pair, text.toString());
        }
        pair.end(text.toString());
        pair.compare(text.toString());
        pair.show(text.toString());
    }
}
