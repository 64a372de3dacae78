/** Terms: contractions and their cost, normal forms, what fits, types with their reasons and places (promises 3, 5). */
public final class TermTest {
    private static final String NAT = "data nat: Type | z: nat | s: nat -> nat."
            + " def add (n m: nat): nat := rec nat Type (fun x: nat => nat) m (fun p r: nat => s r) n.";

    public static void main(String[] args) {
        costs();
        heads();
        lets();
        reasons();
        fits();
        recs();
        Bench.close("TermTest");
    }

    /** The verdict and, if something was printed, the paper behind it. */
    private static void same(String before, String text, String want) {
        Bench bench = new Bench();
        bench.fuel(10000);
        bench.end(before);
        bench.tear();
        String verdicts = bench.verdicts(text);
        String paper = bench.torn();
        Bench.due(text, paper.isEmpty() ? verdicts : verdicts + " " + paper, want);
    }

    private static void costs() {
        same("", "def id (A : Type) (x : A) : A := x.", "accepted 13");
        same("", "def id (A : Type) (x : A) := x.", "accepted 4");
        same("", "axiom a: Type98.", "accepted 1");
        same("", "check fun x y: Prop => Prop.", "accepted 2 Prop -> Prop -> Type0/");
        same("", "check fun x y: Prop -> Prop => Prop.", "accepted 7 (Prop -> Prop) -> (Prop -> Prop) -> Type0/");
        same("", "check fun (x: Prop -> Prop) (y: Prop -> Prop) => Prop.",
                "accepted 8 (Prop -> Prop) -> (Prop -> Prop) -> Type0/");
        same(NAT, "def two := s (s z).", "accepted 9");
        same(NAT, "def two := s (s z). norm two.", "accepted 9; accepted 9 s (s z)/");
        same(NAT, "check (s: nat -> nat).", "accepted 9 nat -> nat/");
        same(NAT, "check s: nat -> nat.", "accepted 9");
    }

    private static void heads() {
        String ax = "axiom A: Type. axiom a: A. axiom g: A -> A -> A. def h (x: A) := g x x. lemma l: A := a.";
        // 3 for the type of the fun, 1 for that of a, 1 for the type; then 1 for the application, 1 to contract, 1 node.
        same(ax, "norm (fun x: A => x) a.", "accepted 8 a/");
        same(ax, "norm h a.", "accepted 15 g a a/");
        same(ax, "norm h.", "accepted 13 fun x: A => g x x/");
        same(ax, "norm l.", "accepted 2 l/");
        same(ax, "norm (fun x: A => h x) l.", "accepted 21 g l l/");
        // An argument that is dropped costs nothing but its type.
        same(ax, "norm (fun x y: A => y) (h a) a.", "accepted 19 a/");
        // What stands for a variable twice is reduced twice.
        same(ax, "norm h (h a).", "accepted 37 g (g a a) (g a a)/");
        same(NAT, "norm fun n: nat => add n n.",
                "accepted 42 fun n: nat => rec nat Type0 (fun x: nat => nat) n (fun p: nat => fun r: nat => s r) n/");
        same(NAT, "norm add (s z) (s z).", "accepted 46 s (s z)/");
        same(NAT, "norm rec nat Type.", "accepted 26 rec nat Type0/");
        same(NAT, "norm add.", "accepted 32 fun n: nat => fun m: nat => "
                + "rec nat Type0 (fun x: nat => nat) m (fun p: nat => fun r: nat => s r) n/");
    }

    private static void lets() {
        same(NAT, "norm let x := z in x.", "accepted 4 z/");
        same(NAT, "norm let x: nat := z in s x.", "accepted 13 s z/");
        same(NAT, "check let x: nat := Prop in x.", "refused 5 at 20");
        same(NAT, "check let x: z := z in x.", "refused 3 at 13");
        // Within its last part the variable of a let is contracted, at 1.
        same(NAT, "check let T := nat in fun x: T => x.", "accepted 5 nat -> nat/");
        same(NAT, "check let T := nat in (z: T).", "accepted 5 nat/");
        same(NAT, "check let T: Type1 := nat in (z: T).", "accepted 6 nat/");
        same(NAT, "check let n := z in let m := s n in fun P: nat -> Prop => fun h: P m => h.",
                "accepted 30 all P: nat -> Prop, P (s z) -> P (s z)/");
        same(NAT, "norm let x := s z in let y := s x in add y x.", "accepted 63 s (s (s z))/");
        same(NAT, "def t := let x: nat := s z in s x. norm t. show.", "accepted 12; accepted 10; unreadable at 43 s (s z)/");
    }

    private static void reasons() {
        same(NAT, "axiom a: z.", "refused 3 at 9");
        same(NAT, "axiom a: s.", "refused 3 at 9");
        same(NAT, "axiom a (x: z): nat.", "refused 3 at 12");
        same(NAT, "axiom a (x: nat): x.", "refused 3 at 18");
        same(NAT, "check all x: nat, s x.", "refused 3 at 18");
        same(NAT, "check nat -> (z).", "refused 3 at 14");
        same(NAT, "check ((z)) -> nat.", "refused 3 at 8");
        same(NAT, "check (z: nat) -> nat.", "refused 3 at 6");
        same(NAT, "check fun x: s z => x.", "refused 3 at 13");
        same(NAT, "check (z: (z)).", "refused 3 at 11");
        same(NAT, "check ((z) z).", "refused 4 at 8");
        same(NAT, "check s z z.", "refused 4 at 6");
        same(NAT, "check fun x: nat => (s x) x.", "refused 4 at 21");
        same(NAT, "check z q.", "refused 1 at 8");
        same(NAT, "check z (Prop Prop).", "refused 4 at 6");
        same(NAT, "check s (s).", "refused 5 at 9");
        same(NAT, "check s (z: Prop).", "refused 5 at 9");
        same(NAT, "check (s (z: nat): Prop).", "refused 5 at 7");
        same(NAT, "check s (fun x: nat => x).", "refused 5 at 9");
        same(NAT, "check s (nat -> nat).", "refused 5 at 9");
        same(NAT, "def a: nat := s.", "refused 5 at 14");
        same(NAT, "def a (x: nat): nat := fun y: nat => x.", "refused 5 at 23");
        same(NAT, "lemma a: nat := (Prop).", "refused 5 at 17");
        same(NAT, "check Prop: nat.", "refused 5 at 6");
        same(NAT, "check z: z.", "refused 3 at 9");
        same(NAT, "check all x: Type99, x.", "refused 6 at 13");
        same(NAT, "check fun x: Type98 => x.", "accepted 2 Type98 -> Type98/");
        same(NAT, "norm Type99.", "refused 6 at 5");
    }

    private static void fits() {
        String ax = "axiom p: Prop. axiom f: Type1 -> Prop. axiom g: (nat -> Type) -> Prop. axiom k: (Type -> Prop) -> Prop.";
        same(NAT + ax, "check f Prop. check f Type. check f p.", "accepted 4; accepted 4; accepted 5 Prop/Prop/Prop/");
        same(NAT + ax, "check f Type1.", "refused 5 at 8");
        same(NAT + ax, "check g (fun n: nat => p).", "accepted 9 Prop/");
        same(NAT + ax, "check g (fun n: nat => Type).", "refused 5 at 9");
        same(NAT + ax, "check g (fun n: Prop => p).", "refused 5 at 9");
        same(NAT + ax, "check k f.", "refused 5 at 8");
        same(NAT + ax, "check k (fun T: Type => p).", "accepted 8 Prop/");
        same(NAT + ax, "check (fun x y: nat => y: all u v: nat, nat).", "accepted 13 nat -> nat -> nat/");
        same(NAT + ax, "check p: Type. check p: Type7. check Type: Type. check Type: Type1.",
                "accepted 2; accepted 2; refused 5 at 37; accepted 1");
        same(NAT, "check fun (P Q: nat -> Prop) (h: P z) => (h: Q z).", "refused 5 at 42");
        same(NAT, "check fun (P: nat -> Prop) (h: P z) => (h: P (s z)).", "refused 5 at 40");
        same(NAT, "check fun (P: nat -> Prop) (n: nat) (h: P (rec nat Type (fun x: nat => nat) z (fun p r: nat => p) n)) =>"
                + " (h: P (rec nat Type1 (fun x: nat => nat) z (fun p r: nat => p) n)).", "refused 5 at 106");
        same(NAT, "check fun (P: (nat -> nat) -> Prop) (h: P (fun n: nat => n)) => (h: P (fun m: nat => z)).", "refused 5 at 65");
        same(NAT, "check fun (P: Type2 -> Prop) (h: P Type) => (h: P Type1).", "refused 5 at 45");
        same(NAT, "check fun (P: Type2 -> Prop) (h: P (nat -> Prop)) => (h: P (nat -> Type)).", "refused 5 at 54");
        same(NAT, "check fun (h: nat -> Prop) => (h: nat -> Type). check fun (h: Type -> nat) => (h: Prop -> nat).",
                "accepted 13; refused 5 at 79 (nat -> Prop) -> nat -> Type0/");
        // One declaration behind the other, with other variables each time.
        same(NAT + ax, "check fun (P: nat -> Prop) (h: all x: nat, P x) => (h: all y: nat, P y)."
                + " check fun (a b c d e: nat) (P: nat -> Prop) (h: P a) => (h: P a)."
                + " check fun (a b c d e: nat) (P: nat -> Prop) (h: P a) => (h: P b).",
                "accepted 36; accepted 32; refused 5 at 196 all P: nat -> Prop, (all x: nat, P x) -> all y: nat, P y"
                + "/all a: nat, nat -> nat -> nat -> nat -> all P: nat -> Prop, P a -> P a/");
        same(NAT, "check fun (P: nat -> nat -> Prop) (h: all x y: nat, P x y) => (h: all y x: nat, P x y).",
                "refused 5 at 63");
        same(NAT, "check fun (P: nat -> nat -> Prop) (h: all x y: nat, P x y) => (h: all y x: nat, P y x).",
                "accepted 68 all P: nat -> nat -> Prop, (all x: nat, all y: nat, P x y) -> all y: nat, all x: nat, P y x/");
    }

    private static void recs() {
        String more = "data False: Prop. data or (P Q: Prop): Prop | inl: P -> or P Q | inr: Q -> or P Q."
                + " data and (P Q: Prop): Prop | conj: P -> Q -> and P Q. data ex (P: nat -> Prop): Prop | ei: all n: nat, P n -> ex P."
                + " data tree: Type | leaf: tree | node: (nat -> tree) -> tree.";
        same(NAT + more, "check rec False Type5. check rec or Prop. check rec and Type. check rec ex Prop.",
                "accepted 9; accepted 45; accepted 37; accepted 33"
                + " all M: False -> Type5, all x: False, M x"
                + "/all P: Prop, all Q: Prop, all M: or P Q -> Prop, (all x: P, M (inl P Q x)) -> (all x: Q, M (inr P Q x)) -> all x: or P Q, M x"
                + "/all P: Prop, all Q: Prop, all M: and P Q -> Type0, (all x: P, all x1: Q, M (conj P Q x x1)) -> all x: and P Q, M x"
                + "/all P: nat -> Prop, all M: ex P -> Prop, (all n: nat, all x: P n, M (ei P n x)) -> all x: ex P, M x/");
        same(NAT + more, "check rec or Type.", "refused 11 at 6");
        same(NAT + more, "check rec ex Type.", "refused 11 at 6");
        same(NAT + more, "check rec or Type99. check rec False Type99. check rec nat Type99. check rec nat Type98: Prop.",
                "refused 11 at 6; refused 6 at 27; refused 6 at 51; refused 5 at 73");
        same(NAT + more, "check rec tree Prop.", "accepted 31 "
                + "all M: tree -> Prop, M leaf -> (all x: nat -> tree, (all x1: nat, M (x x1)) -> M (node x)) -> all x: tree, M x/");
        same(NAT + more, "norm fun t: tree => rec tree Type (fun x: tree => nat) z (fun (f: nat -> tree) (r: nat -> nat) => s (r z)) (node (fun n: nat => t)).",
                "accepted 155 fun t: tree => s (rec tree Type0 (fun x: tree => nat) z (fun f: nat -> tree => fun r: nat -> nat => s (r z)) t)/");
        same(NAT + more, "norm rec tree Type (fun x: tree => tree) leaf (fun (f: nat -> tree) (r: nat -> tree) => node r) (node (fun n: nat => leaf)).",
                "accepted 128 node (fun x: nat => leaf)/");
    }
}
