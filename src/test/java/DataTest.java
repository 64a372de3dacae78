/** data: families and constructors, their reasons in order, and what rec does with them (promises 3, 5, 11). */
public final class DataTest {
    private static final String NAT = "data nat: Type | z: nat | s: nat -> nat.";

    public static void main(String[] args) {
        shapes();
        sorts();
        positivity();
        order();
        families();
        reckoning();
        Bench.close("DataTest");
    }

    private static void same(String text, String want) {
        Bench bench = new Bench();
        bench.end(NAT);
        Bench.due(text, bench.verdicts(text), want);
    }

    private static void shapes() {
        same("data D: z.", "refused 9 at 8");
        same("data D: nat -> z.", "refused 9 at 8");
        same("data D: (nat) -> ((Type)).", "accepted 2");
        same("data D: all x: nat, nat -> (all y: nat, Prop).", "accepted 6");
        same("data D: (Type: Type1).", "refused 9 at 8");
        same("data D: let x := nat in Type.", "refused 9 at 8");
        same("data D: fun x: nat => Type.", "refused 9 at 8");
        same("data D: (fun x: nat => Type) z.", "refused 9 at 9");
        same("data D: Type | c: nat.", "refused 8 at 18");
        same("data D: Type | c: D z.", "refused 8 at 18");
        same("data D: Type | c: (D).", "accepted 2");
        same("data D: Type | c: (D: Type).", "refused 8 at 18");
        same("data D: Type | c: all x: nat, let y := x in D.", "refused 8 at 18");
        same("data D: Type | c: nat -> nat.", "refused 8 at 18");
        same("data D: nat -> Type | c: D.", "refused 8 at 25");
        same("data D: nat -> Type | c: ((D)) (s z).", "accepted 18");
        same("data D (A: Type): Type | c: D nat.", "refused 8 at 28");
        same("data D (A: Type): Type | c: D (A).", "accepted 10");
        same("data D (A: Type): Type | c: D (A: Type).", "refused 8 at 28");
        same("data D (A: Type): Type | c: all A: Type, D A.", "refused 8 at 28");
        same("data D (A B: Type): Type | c: D B A.", "refused 8 at 30");
        same("data D (A: Type) (A: Type): Type | c: D A A.", "refused 8 at 38");
        same("data D (D: Type): Type | c: D.", "refused 8 at 28");
    }

    private static void sorts() {
        same("data D (x: z): Type.", "refused 3 at 11");
        same("data D: z -> Type.", "refused 3 at 8");
        same("data D: Type99.", "refused 6 at 8");
        same("data D: nat -> (Type99).", "refused 6 at 16");
        same("data D: z -> Type99.", "refused 3 at 8");
        same("data D: Type98.", "accepted 0");
        same("data D: Type | c: z -> D.", "refused 3 at 18");
        same("data D: Type | c: Type -> D.", "refused 10 at 18");
        same("data D: Type | c: Prop -> D.", "accepted 3");
        same("data D: Type1 | c: Type -> D.", "accepted 3");
        same("data D: Type | c: (all P: Prop, P) -> D.", "accepted 7");
        same("data D: Type | c: all (x: nat) (T: Type), D.", "refused 10 at 35");
        same("data D: Prop | c: Type7 -> D.", "accepted 3");
        same("data D (A: Type5): Type | c: D A.", "accepted 10");
        same("data D (A: Type5): Type | c: A -> D A.", "refused 10 at 29");
        same("data D: nat -> Type | c: D Prop.", "refused 5 at 27");
        same("data D: nat -> Type | c: all x: nat, D (x z).", "refused 4 at 40");
    }

    private static void positivity() {
        same("data D: Type | c: (D -> nat) -> D.", "refused 7 at 19");
        same("data D: Type | c: ((D -> nat) -> D) -> D.", "refused 7 at 20");
        same("data D: Type | c: (nat -> D) -> D.", "accepted 8");
        same("data D: Type | c: (nat -> nat -> D) -> (D) -> D.", "accepted 14");
        same("data D: Type | c: all x: D, D -> D.", "accepted 6");
        same("data D: nat -> Type | c: all n: nat, (all m: nat, D (s m)) -> D n.", "accepted 33");
        same("data L (A: Type): Type | n: L A. data T: Type | c: L T -> T.", "accepted 10; refused 7 at 51");
        same("data D (A: Type): Type | c: D (D A) -> D A.", "refused 7 at 28");
        same("data D (A: Type): Type | c: D nat -> D A.", "refused 7 at 28");
        same("data D (A: Type1): Type1 -> Type1 | c: D A (D A A) -> D A A.", "refused 7 at 39");
        same("def k (A B: Type) := B. data D: Type | c: k (D -> nat) D -> D.", "accepted 3; accepted 21");
        same("def k (A B: Type) := A. data D: Type | c: k (D -> nat) D -> D.", "accepted 3; refused 7 at 42");
        same("data D: Type | c: (all x: nat, (fun y: D => nat) x -> D) -> D.", "refused 5 at 49");
    }

    private static void order() {
        // Groups, then the shape, then the indices, then the sort; then constructor by constructor.
        same("data D (x: z): z.", "refused 3 at 11");
        same("data D: (z) -> z.", "refused 9 at 9");
        same("data D: Type | c: z -> D | d: nat.", "refused 3 at 18");
        same("data D: Type | c: z -> nat.", "refused 8 at 18");
        same("data D: Type | c: (Type -> D -> Prop) -> D.", "refused 10 at 19");
        same("data D: Type | c: (D -> nat) -> z -> D.", "refused 7 at 19");
        same("data D: nat -> Type | c: z -> D Prop.", "refused 3 at 25");
        Bench bench = new Bench();
        bench.end(NAT);
        bench.fuel(1);
        // The sort is looked at before the normal form of the argument is made.
        Bench.due("10 before the fuel", bench.verdicts("data D: Type | c: Type -> D."), "refused 10 at 18");
        Bench.due("7 behind the fuel", bench.verdicts("data D: Type | c: (D -> nat) -> D."), "out");
        Bench.due("9 before", bench.verdicts("data D: nat -> z."), "refused 9 at 8");
        Bench.due("9 behind the groups", bench.verdicts("data D (A: Type) (a: A): z."), "out");
        Bench.due("nothing came", bench.globals(), 3);
    }

    private static void families() {
        Bench bench = new Bench();
        Bench.due("families", bench.verdicts(NAT
                + "data vec (A: Type) (n k: nat): nat -> all m: nat, Type | nil: vec A n k z z"
                + " | cons: all (x y: A) (i: nat), vec A n k i (s i) -> vec A n k (s i) z."
                + "data P: Prop. data Q: Prop | q: Q. data R: Prop | r: Q -> Q -> R. data S: Prop | t: nat -> S."
                + "data U: Prop | u: U | v: U."),
                "accepted 6; accepted 198; accepted 0; accepted 2; accepted 6; accepted 4; accepted 4");
        Bench.due("vec", about(bench, "vec"), "3 11 3 2 2 1");
        Bench.due("nil", about(bench, "nil"), "4 17 3 0 3 0");
        Bench.due("cons", about(bench, "cons"), "4 39 3 4 3 0");
        Bench.due("P", about(bench, "P"), "3 1 0 0 0 1");
        Bench.due("Q", about(bench, "Q"), "3 1 0 0 1 1");
        Bench.due("R", about(bench, "R"), "3 1 0 0 1 1");
        Bench.due("S", about(bench, "S"), "3 1 0 0 1 0");
        Bench.due("U", about(bench, "U"), "3 1 0 0 2 0");
        Bench.due("t", about(bench, "t"), "4 3 0 1 11 0");
        Bench.due("vec shown", bench.shown("vec"), "Type0 -> nat -> nat -> nat -> nat -> Type0/");
        Bench.due("cons shown", bench.shown("cons"), "all A: Type0, all n: nat, all k: nat, "
                + "A -> A -> all i: nat, vec A n k i (s i) -> vec A n k (s i) z/");
        bench.fuel(10000);
        bench.end("check rec vec Type3.");
        Bench.due("rec vec", bench.torn(), "all A: Type0, all n: nat, all k: nat, "
                + "all M: all x: nat, all m: nat, vec A n k x m -> Type3, M z z (nil A n k) -> "
                + "(all x: A, all y: A, all i: nat, all x1: vec A n k i (s i), M i (s i) x1 -> "
                + "M (s i) z (cons A n k x y i x1)) -> all x: nat, all m: nat, all x1: vec A n k x m, M x m x1/");
    }

    private static String about(Bench bench, String name) {
        int g = bench.find(name);
        StringBuilder all = new StringBuilder();
        for (int what = 0; what < 6; what++) {
            all.append(what == 0 ? "" : " ").append(bench.about(g, what));
        }
        return all.toString();
    }

    private static void reckoning() {
        Bench bench = new Bench();
        bench.fuel(10000);
        bench.end(NAT + "def add (n m: nat): nat := rec nat Type (fun x: nat => nat) m (fun p r: nat => s r) n.");
        // A call's indices Js depend on the parameters, on arguments before, and on ys.
        bench.end("data T (A: Type) (k: A -> nat): nat -> Type | leaf: all n: nat, T A k n"
                + " | node: all (n: nat) (a: A) (f: all y: A, T A k (add (k y) n)), T A k (s n).");
        bench.end("def sum (A: Type) (k: A -> nat) (i: nat) (t: T A k i): nat := rec T Type A k (fun (n: nat) (t: T A k n) => nat)"
                + " (fun n: nat => n) (fun (n: nat) (a: A) (f: all y: A, T A k (add (k y) n)) (r: A -> nat) => add n (r a)) i t.");
        Bench.due("sum is a def", bench.verdict(0).substring(0, 8), "accepted");
        Bench.due("sum", bench.verdicts("norm sum nat s (s (s z)) (node nat s (s z) (s z) (fun y: nat => leaf nat s (add (s y) (s z)))).")
                + " " + bench.torn(), "accepted 624 s (s (s (s z)))/");
        Bench.due("a call that stays", bench.verdicts("norm fun (x: nat) (g: all y: nat, T nat s (add (s y) x)) =>"
                + " rec T Type nat s (fun (n: nat) (t: T nat s n) => nat -> nat) (fun (n y: nat) => y)"
                + " (fun (n a: nat) (f: all y: nat, T nat s (add (s y) n)) (r: nat -> nat -> nat) => r n) (s x) (node nat s x x g)."), "accepted 1455");
        Bench.due("its paper", bench.torn(), "fun x: nat => fun g: all y: nat, "
                + "T nat s (s (rec nat Type0 (fun x: nat => nat) x (fun p: nat => fun r: nat => s r) y)) => "
                + "rec T Type0 nat s (fun n: nat => fun t: T nat s n => nat -> nat) (fun n: nat => fun y: nat => y) "
                + "(fun n: nat => fun a: nat => fun f: all y: nat, "
                + "T nat s (s (rec nat Type0 (fun x: nat => nat) n (fun p: nat => fun r: nat => s r) y)) => "
                + "fun r: nat -> nat -> nat => r n) "
                + "(s (rec nat Type0 (fun x: nat => nat) x (fun p: nat => fun r: nat => s r) x)) (g x)/");
        Bench.due("too few parts stay", bench.verdicts("norm rec nat Type (fun x: nat => nat) z.") + " " + bench.torn(),
                "accepted 66 rec nat Type0 (fun x: nat => nat) z/");
        bench.end("data tree: Type | tip: nat -> tree | fork: tree -> nat -> tree -> tree.");
        Bench.due("two calls", bench.verdicts("norm rec tree Type (fun t: tree => tree) (fun n: nat => tip (s n))"
                + " (fun (t: tree) (n: nat) (u q r: tree) => fork r n q) (fork (fork (tip z) (s z) (tip (s z))) z (tip (s (s z)))).")
                + " " + bench.torn(), "accepted 304 fork (tip (s (s (s z)))) z (fork (tip (s (s z))) (s z) (tip (s z)))/");
        bench.end("data eq (A: Type) (a: A): A -> Prop | refl: eq A a a. axiom h: eq nat z (s z).");
        Bench.due("rec into Type of a Prop", bench.verdicts("norm rec eq Type nat z (fun (x: nat) (e: eq nat z x) => nat) (s z) z (refl nat z).")
                + " " + bench.torn(), "accepted 280 s z/");
        Bench.due("stuck on an axiom", bench.verdicts("norm rec eq Type nat z (fun (x: nat) (e: eq nat z x) => nat) (s z) (s z) h.")
                + " " + bench.torn(), "accepted 286 rec eq Type0 nat z (fun x: nat => fun e: eq nat z x => nat) (s z) (s z) h/");
    }
}
