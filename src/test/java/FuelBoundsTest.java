/** Cost and fuel, alike, one more and one less (promises 3, 4, 5): what is accepted, and what reasons are met before. */
public final class FuelBoundsTest {
    private static final String BASE = "axiom A: Type. axiom a: A. axiom f: A -> A. axiom p: Prop. axiom h: p."
            + " data N: Type | z: N | s: N -> N. data O: Prop | l: O | r: O.";
    private static final int GLOBALS = 11;

    public static void main(String[] args) {
        questions();
        definitions();
        families();
        recs();
        large();
        reasonsOfTerms();
        reasonsOfDefinitions();
        reasonsOfFamilies();
        namesCostNothing();
        eachHasTheFuel();
        Bench.close("FuelBoundsTest");
    }

    private static Bench withFuel(int fuel) {
        Bench bench = new Bench();
        bench.end(BASE);
        bench.fuel(fuel);
        return bench;
    }

    /** Accepted with fuel for its cost and with more; with less it is out, and nothing comes of it. */
    private static void costs(String text, int cost) {
        for (int fuel = Math.max(1, cost); fuel <= Math.min(10000, cost + 1); fuel++) {
            Bench bench = withFuel(fuel);
            Bench.due(text + " with fuel " + fuel, bench.verdicts(text), "accepted " + cost);
            boolean asks = text.startsWith("norm") || text.startsWith("check");
            Bench.due("globals come of " + text, bench.globals() > GLOBALS, !asks);
        }
        for (int fuel = Math.max(1, cost - 2); fuel < cost; fuel++) {
            Bench bench = withFuel(fuel);
            Bench.due(text + " with fuel " + fuel, bench.verdicts(text), "out");
            Bench.due("no global comes of it", bench.globals(), GLOBALS);
            Bench.due("and no line", bench.paper(), 0);
        }
    }

    private static void questions() {
        costs("check Prop.", 0);
        costs("check Type98.", 0);
        costs("check Prop: Type.", 1);
        costs("norm Prop.", 1);
        costs("check a.", 1);
        costs("norm a.", 2);
        // The type of A, A in normal form, the type of a.
        costs("check a: A.", 3);
        costs("check (a: A).", 3);
        costs("check (a).", 1);
        // The types of f and a, and A for the whole; then an application's head, and three nodes.
        costs("check f a.", 3 + 1 + 1);
        costs("norm f a.", 5 + 1 + 3);
        costs("norm (f: A -> A) a.", 3 + 3 + 3 + 1 + 1 + 1 + 3);
        // A, A in normal form, x; a; the whole; then the application's head, the contraction, one node.
        costs("check (fun x: A => x) a.", 3 + 1 + 1);
        costs("norm (fun x: A => x) a.", 5 + 1 + 1 + 1);
        costs("check let x := a in x.", 2);
        costs("norm let x := a in x.", 2 + 1 + 1);
        costs("check let x: A := a in x.", 1 + 1 + 1 + 1);
        costs("norm let x: A := a in x.", 4 + 1 + 1);
        // The variable of a let is contracted, at 1, where one is in its last part.
        costs("check let T := A in fun x: T => x.", 1 + 1 + 2 + 1);
        costs("check let T := A in let U := T in fun x: U => x.", 1 + 1 + 1 + 3 + 1);
        costs("check A -> A.", 3);
        costs("norm A -> A.", 3 + 3);
        costs("check all x y: A, A.", 1 + 1 + 1 + 1);
        costs("check all (x: A) (y: A), A.", 1 + 1 + 1 + 1 + 1);
        costs("check fun x y z: A -> A => a.", 3 + 3 + 3 + 3 + 1);
        costs("norm s (s z).", 3 + 5 + 1 + 1 + 1 + 5);
        // An argument that is dropped is not reduced; one that is used twice is reduced twice.
        costs("norm (fun x y: A => y) (f a) a.", 1 + 1 + 1 + 1 + 5 + 3 + 1 + 1 + 2 + 2 + 1);
        costs("norm (fun x: A => x) ((fun x: A => x) a).", 3 + 5 + 1 + 1 + 1 + 1 + 1 + 1);
    }

    private static void definitions() {
        costs("axiom b: Type98.", 1);
        costs("axiom b: A.", 2);
        costs("axiom b (x: A): A.", 3 + 3);
        costs("axiom b (x y: A): A.", 4 + 5);
        costs("def b := Prop.", 0);
        costs("def b := a.", 1);
        costs("def b: A := a.", 1 + 1 + 1);
        costs("lemma b: A := a.", 1 + 1 + 1);
        costs("def b (x: A) := x.", 3);
        costs("def b (x: A): A := x.", 3 + 3 + 3);
        costs("lemma b (x: A): A := x.", 3 + 3 + 3);
        costs("def id (A : Type) (x : A) : A := x.", 4 + 5 + 4);
        costs("def b (x: (fun y: A => A) a): A := x.", 1 + 1 + 1 + 1 + 1 + 3 + 1 + 5 + 1 + 1 + 1 + 1 + 1 + 3 + 1);
    }

    private static void families() {
        costs("data D: Prop.", 0);
        costs("data D: Type98.", 0);
        costs("data D: A -> Type.", 2);
        costs("data D (x: A): Type.", 2);
        costs("data D (x y: A): Type.", 3);
        costs("data D: Type | c: D.", 1 + 1);
        costs("data D: Type | c: D | d: D.", 2 + 2);
        costs("data D: Type | c: A -> D.", 2 + 2);
        costs("data D: Type | c: all x y: A, D.", 3 + 2);
        costs("data D: Type | c: D -> D.", 2 + 2);
        // The type of D x y costs 11: D 5, x 1, A -> Type0 3, y 1, Type0 1; its normal form 2 and 5 nodes.
        costs("data D (x: A): A -> Type | c: all y: A, D x y -> D x a.", 2 + 2 + 2 + 11 + 7 + 11 + 7);
    }

    private static void recs() {
        costs("check rec N Prop.", 25);
        costs("norm rec N Type98.", 25 + 1);
        // The motive 3, all with it 11 nodes and 4 heads at 2, a 1, the rest 9, the part for s 5, the rest 3, s z 5, A 1;
        // then 4 applications, that of s, a contraction, 2 applications, 2 contractions, 4 applications, one more, 1 node.
        costs("norm rec N Type (fun x: N => A) a (fun (n: N) (r: A) => r) (s z).",
                25 + 3 + 19 + 1 + 9 + 5 + 3 + 5 + 1 + 4 + 1 + 1 + 2 + 2 + 4 + 1 + 1);
        costs("check rec O Prop.", 4 + 4 + 4 + 5);
    }

    private static void large() {
        // 5 for the type of the names, and 5 for each.
        costs("check fun " + "x ".repeat(999) + ": A -> A -> A => Prop.", 5000);
        // 9 types of p and that of the last one; then for each name 9 contractions and a node.
        String lets = "let u := p in ".repeat(9) + "p";
        costs("check fun " + "x ".repeat(999) + ": " + lets + " => Prop.", 10000);
        Bench bench = withFuel(10000);
        Bench.due("a cost of 10001", bench.verdicts("check fun " + "x ".repeat(999) + ": " + lets + " => p."), "out");
    }

    /** Refused with fuel for what comes before the reason and with much; with less it is out. */
    private static void refused(String text, int reason, int place, int before) {
        String want = "refused " + reason + " at " + place;
        Bench.due(text + " with much fuel", withFuel(10000).verdicts(text), want);
        Bench.due(text + " with fuel " + (before + 1), withFuel(before + 1).verdicts(text), want);
        if (before > 0) {
            Bench bench = withFuel(before);
            Bench.due(text + " with fuel " + before, bench.verdicts(text), want);
            Bench.due("no global comes of it", bench.globals(), GLOBALS);
            Bench.due("and no line", bench.paper(), 0);
        }
        if (before > 1) {
            Bench.due(text + " with fuel " + (before - 1), withFuel(before - 1).verdicts(text), "out");
        }
    }

    private static void reasonsOfTerms() {
        refused("check Type99.", 6, 6, 0);
        refused("norm f Type99.", 6, 7, 3);
        refused("check rec O Type.", 11, 6, 0);
        refused("check rec O Type99.", 11, 6, 0);
        refused("check rec N Type99.", 6, 6, 0);
        refused("check f rec O Type.", 11, 8, 3);
        // In all and fun the type of the variable comes first.
        refused("check all x: a, f p.", 3, 13, 1);
        refused("check all x: f a, a a.", 3, 13, 5);
        refused("check all x: f f, a a.", 5, 15, 6);
        refused("check all x: A, f a.", 3, 16, 1 + 1 + 5);
        refused("check all x y: A, f a.", 3, 18, 1 + 1 + 1 + 5);
        refused("check f a -> a a.", 3, 6, 5);
        refused("check A -> f a.", 3, 11, 7);
        refused("check fun x: f a => a a.", 3, 13, 5);
        refused("check fun x: A => x x.", 4, 18, 1 + 1 + 1);
        refused("check fun x: A => f f.", 5, 20, 1 + 1 + 6);
        // In an application what it is put to comes last.
        refused("check a (a a).", 4, 6, 1);
        refused("check f (a a).", 4, 9, 3 + 1);
        refused("check f f.", 5, 8, 3 + 3);
        refused("norm f f.", 5, 7, 3 + 3);
        refused("check f a a.", 4, 6, 5);
        refused("check f a (a a).", 4, 6, 5);
        // In a let its type, then its value, then its last part.
        refused("check let x: f a := f f in x x.", 3, 13, 5);
        refused("check let x: A := f in x x.", 5, 18, 1 + 1 + 3);
        refused("check let x: A := f f in x x.", 5, 20, 1 + 1 + 6);
        refused("check let x: A := a in x x.", 4, 23, 1 + 1 + 1 + 1);
        refused("check let x := f f in x x.", 5, 17, 6);
        refused("check let x := f in x x.", 5, 22, 3 + 3 + 3);
        // In (T : U) U comes first.
        refused("check (f f: f a).", 3, 12, 5);
        refused("check (f f: A).", 5, 9, 1 + 1 + 6);
        refused("check (f: A).", 5, 7, 1 + 1 + 3);
        refused("check f f: f a.", 3, 11, 5);
        refused("check f: A.", 5, 6, 1 + 1 + 3);
        refused("check f: Type99.", 6, 9, 0);
    }

    private static void reasonsOfDefinitions() {
        refused("axiom b: f a.", 3, 9, 5);
        refused("axiom b (x: f a): a a.", 3, 12, 5);
        refused("axiom b (x: A): f x.", 3, 16, 1 + 1 + 3 + 1 + 1);
        refused("axiom b (x: A) (y: x): A.", 3, 19, 1 + 1 + 1);
        refused("axiom b: Type99.", 6, 9, 0);
        refused("def b: f a := f f.", 3, 7, 5);
        refused("def b: A := f f.", 5, 14, 1 + 1 + 6);
        refused("def b: A := f.", 5, 12, 1 + 1 + 3);
        refused("def b (x: A): A := f.", 5, 19, 3 + 3 + 1 + 1 + 3);
        refused("lemma b (x: A): A := f.", 5, 21, 3 + 3 + 1 + 1 + 3);
        refused("def b (x: A): a := f.", 3, 14, 1 + 1 + 1);
        refused("def b (x: A) := f f.", 5, 18, 1 + 1 + 6);
        refused("def b := f f.", 5, 11, 6);
        refused("def b: Type99 := f f.", 6, 7, 0);
    }

    private static void reasonsOfFamilies() {
        // The groups, then 9, then the indices, then 6.
        refused("data D (x: f a): a.", 3, 11, 5);
        refused("data D (x: A): a.", 9, 15, 1 + 1);
        refused("data D (x y: A): a.", 9, 17, 1 + 1 + 1);
        refused("data D: f a -> a.", 9, 8, 0);
        refused("data D: f a -> Type99.", 3, 8, 5);
        refused("data D: A -> Type99.", 6, 13, 1 + 1);
        refused("data D: Type99 | c: A.", 6, 8, 0);
        // Then each constructor: 8, then each argument: 3, 10, 7; then its application.
        refused("data D: A -> Type | c: f a -> A.", 8, 23, 1 + 1);
        refused("data D: A -> Type | c: f a -> D a.", 3, 23, 2 + 5);
        refused("data D: A -> Type | c: Type -> D a.", 10, 23, 2);
        refused("data D: A -> Type | c: (Type -> D a) -> D a.", 10, 24, 2 + 1 + 5);
        // D a costs 5, and 4 in normal form; with A behind it 10, and 6 in normal form.
        refused("data D: A -> Type | c: (D a -> A) -> D a.", 7, 24, 2 + 10 + 6);
        refused("data D: A -> Type | c: (D a -> A) -> Type -> D a.", 7, 24, 2 + 10 + 6);
        refused("data D: A -> Type | c: A -> Type -> D a.", 10, 28, 2 + 2);
        refused("data D: A -> Type | c: A -> D h.", 5, 30, 2 + 2 + 3 + 1);
        refused("data D: Type | c: D | d: A.", 8, 25, 2);
        refused("data D: Type | c: a a -> D | d: A.", 4, 18, 1);
        refused("data D: Type | c: D -> D | d: (D -> A) -> D.", 7, 31, 2 + 2 + 1 + 1 + 1 + 3);
    }

    private static void namesCostNothing() {
        refused("norm f f q.", 1, 9, 0);
        refused("def a: A := f f.", 2, 4, 0);
        refused("check f f (rec a Prop).", 12, 15, 0);
        refused("data D: A -> A | a: D.", 2, 17, 0);
        refused("data D (x: a): Type | c: q.", 1, 25, 0);
    }

    private static void eachHasTheFuel() {
        Bench bench = withFuel(3);
        Bench.due("each has it from the start", bench.verdicts("check a: A. norm f a. norm a. norm a. norm q. check a: A. axiom b: A -> A."),
                "accepted 3; out; accepted 2; accepted 2; refused 1 at 43; accepted 3; out");
        Bench.due("a fuel between two texts", bench.fuel(9), 3);
        Bench.due("counts for the next one", bench.verdicts("norm f a. axiom b: A -> A. norm b."), "accepted 9; accepted 6; accepted 4");
    }
}
