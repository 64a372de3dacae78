/** Reasons: the order in which they are met, where they lie, and what is just not one (promises 3 and 5). */
public final class ReasonBoundsTest {
    private static final String BASE = "axiom A: Type. axiom a: A. axiom f: A -> A. axiom p: Prop. axiom h: p."
            + " data N: Type | z: N | s: N -> N. data O: Prop | l: O | r: O.";

    public static void main(String[] args) {
        namesInOrder();
        namesInScope();
        namesOfRec();
        placesOfParts();
        placesOfTerms();
        placesOfDeclarations();
        nextSorts();
        sortsOfAll();
        sortsThatFit();
        typesThatFit();
        sortsOfFamilies();
        shapesOfFamilies();
        shapesOfConstructors();
        positivity();
        sortsOfRec();
        Bench.close("ReasonBoundsTest");
    }

    private static void same(String text, String want) {
        Bench bench = new Bench();
        bench.fuel(10000);
        bench.end(BASE);
        Bench.due(text, bench.verdicts(text), want);
    }

    /** Refused at the sign #, which is left out of the text. */
    private static void refused(String text, int reason) {
        int place = text.indexOf('#');
        same(text.replace("#", ""), "refused " + reason + " at " + place);
    }

    private static void accepted(String text, String paper) {
        Bench bench = new Bench();
        bench.fuel(10000);
        bench.end(BASE);
        String verdicts = bench.verdicts(text);
        Bench.due(text + " (" + verdicts + ")", verdicts.matches("(accepted \\d+(; )?)+"), true);
        Bench.due("paper of " + text, bench.read(), paper);
    }

    private static void namesInOrder() {
        // The first of them in the text, before all other reasons.
        refused("axiom #a: q.", 2);
        refused("axiom b: #q -> q2.", 1);
        refused("def #a (x: q): q2 := q3.", 2);
        refused("def b (x: #q): q2 := q3.", 1);
        refused("def b (x: A): #q2 := q3.", 1);
        refused("def b (x: A): A := #q3.", 1);
        refused("def b (x: f f): A := #q3.", 1);
        refused("lemma #a: f f := f f.", 2);
        refused("check f f (#q).", 1);
        refused("check Type99 -> #q.", 1);
        refused("check #q (rec a Prop).", 1);
        refused("check rec #a Prop q.", 12);
        refused("check rec O Type (rec #q Prop).", 12);
        refused("data #a: q | c: q.", 2);
        refused("data D (x: #q): q2 | a: q3.", 1);
        refused("data D: #q | a: D.", 1);
        refused("data D: a | #a: D.", 2);
        refused("data D: Type | #D: q.", 2);
        refused("data D: Type | c: D | #c: q.", 2);
        refused("data D: Type | c: #q | c: D.", 1);
        refused("data D: Type | c: D | d: A | #c: D.", 2);
        refused("data D: f f | c: D -> D | d: #e | e: D.", 1);
        refused("data D: Type | c: a -> D | #z: D.", 2);
        refused("data #N: Type.", 2);
        refused("axiom #s: A.", 2);
        // A name that was declared by what was not accepted is free.
        same("axiom b: f f. axiom b: A. axiom b: A.", "refused 5 at 11; accepted 2; refused 2 at 32");
        same("data D: Type | c: A. axiom c: A. axiom D: A. axiom c: A.", "refused 8 at 18; accepted 2; accepted 2; refused 2 at 51");
        // Variables may have the names of globals and of each other.
        same("def b (b a: A): A := a.", "accepted 13");
        same("check fun (a: A) (a: A) => a.", "accepted 5");
        same("data D (c: A): Type | c: D c. check c.", "accepted 11; accepted 5");
    }

    private static void namesInScope() {
        refused("check (fun x: A => x) #x.", 1);
        refused("check fun x: #x => x.", 1);
        refused("check fun x y: #x => y.", 1);
        refused("check fun (x: A) (y z: #y) => z.", 1);
        same("check fun (x: Type) (y z: x) => z.", "accepted 5");
        refused("check (all x: A, A) -> #x.", 1);
        refused("check all x: #x, A.", 1);
        refused("check let x := #x in x.", 1);
        refused("check let x: #x := a in x.", 1);
        refused("check let x: A := #x in x.", 1);
        refused("check (let x := a in x) #x.", 1);
        same("check let x := a in let x := x in x.", "accepted 3");
        refused("axiom b (x: A): A -> #y.", 1);
        refused("axiom b: #b.", 1);
        refused("def b: A := #b.", 1);
        refused("def b: #b := a.", 1);
        refused("axiom b (x: A) (y: #y): A.", 1);
        refused("axiom b (x y: #x): A.", 1);
        same("axiom b (x: Type) (y: x): x.", "accepted 9");
        same("axiom b (x: Type) (x: x): A.", "accepted 9");
        refused("axiom b (x: Type) (x: x): #x.", 3);
        refused("data D: #D -> Type.", 1);
        refused("data D (x: #D): Type.", 1);
        refused("data D: Type | c: D | d: #c.", 1);
        refused("data D: Type | c: #c.", 1);
        refused("data D: all x: A, Type | c: D #x.", 1);
        same("data D (x: A): Type | c: D x. check c.", "accepted 11; accepted 5");
        // The innermost variable is meant, else a global.
        accepted("norm (fun a: p => a) h. norm fun a: p => fun a: A => a. norm let a := h in a. check all a: Prop, a.",
                "h/fun a: p => fun a: A => a/h/Prop/");
    }

    private static void namesOfRec() {
        refused("check rec #q Prop.", 12);
        refused("check rec #a Prop.", 12);
        refused("check rec #z Prop.", 12);
        refused("check fun x: A => rec #x Prop.", 12);
        refused("check fun a: N => rec #a Prop.", 12);
        refused("data D: Type | c: rec #D Prop.", 12);
        refused("data D: Type | c: D -> rec #D Prop.", 12);
        refused("data D: Type | c: D | d: rec #c Prop.", 12);
        refused("def b: A := rec #b Prop.", 12);
        refused("data D (x: rec #D Prop): Type.", 12);
        // It is always a global, also if a variable has its name.
        accepted("check fun N: A => rec N Prop.", "A -> all M: N -> Prop, M z -> (all x: N, M x -> M (s x)) -> all x: N, M x/");
        same("def d := N. check rec d Prop.", "accepted 1; refused 12 at 22");
    }

    private static void placesOfParts() {
        // 3, at the type of a variable; of T itself for a bracketed T, of its bracket for (T : U).
        refused("check fun x: #a => x.", 3);
        refused("check fun x: (#a) => x.", 3);
        refused("check fun x: ((#a)) => x.", 3);
        refused("check fun x: #(a: A) => x.", 3);
        refused("check fun x: (#(a: A)) => x.", 3);
        refused("check fun (y: A) (x: #f a) => x.", 3);
        refused("check fun (y: A) (x: (#f) a) => x.", 3);
        refused("check all x: #a, A.", 3);
        refused("check #a -> A.", 3);
        refused("check (#a) -> A.", 3);
        refused("check #(a: A) -> A.", 3);
        refused("check (#f) a -> A.", 3);
        refused("check A -> #a.", 3);
        refused("check A -> (#a).", 3);
        refused("check A -> #(a: A).", 3);
        refused("check A -> #a -> A.", 3);
        refused("check (A -> #a) -> A.", 3);
        refused("check A -> A -> #a.", 3);
        refused("check all x y: A, #x.", 3);
        refused("check let x: #a := a in x.", 3);
        refused("check let x: (#a) := a in x.", 3);
        refused("check (a: #a).", 3);
        refused("check (a: (#a)).", 3);
        refused("check a: #a.", 3);
        refused("check a: #(a: A).", 3);
        // 4, at what is put to something.
        refused("check #a a.", 4);
        refused("check (#a) a.", 4);
        refused("check #(a: A) a.", 4);
        refused("check (#(a: A)) a.", 4);
        refused("check #f a a.", 4);
        refused("check (#f a) a.", 4);
        refused("check ((#f) a) a.", 4);
        refused("check f (#f a a).", 4);
        refused("check #A a.", 4);
        refused("check #Type a.", 4);
        refused("check (#A -> A) a.", 4);
        refused("check (#let x := a in x) a.", 4);
        // 5, at what does not fit.
        refused("check f #p.", 5);
        refused("check f (#p).", 5);
        refused("check f #(p: Prop).", 5);
        refused("check f (#(p: Prop)).", 5);
        refused("check f (f #f).", 5);
        refused("check f (f (f #f)).", 5);
        refused("check (#a: p).", 5);
        refused("check ((#a): p).", 5);
        refused("check (#(a: A): p).", 5);
        refused("check #a: p.", 5);
        refused("check (#a): p.", 5);
        refused("check let x: p := #a in x.", 5);
        refused("check let x: p := (#a) in x.", 5);
        refused("check let x: p := #f a in x.", 5);
    }

    private static void placesOfTerms() {
        // Each kind of term where A is wanted: a term lies at its first byte, an application and A -> B at its first part's.
        String[] terms = {"#A", "#Prop", "#Type5", "#rec N Prop", "#fun x: A => x", "#all x: A, A", "#let x := A in x", "#let x: Type := A in x",
            "#f", "#A -> A", "(#A) -> A", "#(A: Type) -> A", "#(A: Type)", "((#A))", "(#fun x: A => fun y: A => x) a", "#s z", "(#s) z", "#(s: N -> N) z"};
        for (String term : terms) {
            refused("check f (" + term + ").", 5);
            refused("check (" + term + ": A).", 5);
            refused("def b: A := " + term + ".", 5);
            refused("lemma b (x: A): A := " + term + ".", 5);
            refused("check let x: A := " + term + " in x.", 5);
        }
        String[] wrong = {"#a", "#f a", "#f", "(#a)", "#(a: A)", "#fun x: A => x", "#let x := a in x", "#rec N Prop", "(#fun x: A => x) a", "(#f) a"};
        for (String term : wrong) {
            refused("axiom b: " + term + ".", 3);
            refused("axiom b (x: " + term + "): A.", 3);
            refused("axiom b (x: A): " + term + ".", 3);
            refused("def b: " + term + " := a.", 3);
            refused("check fun x: " + term + " => x.", 3);
            refused("check all x: A, " + term + ".", 3);
            refused("check A -> " + term + ".", 3);
            refused("check (a: " + term + ").", 3);
            refused("check let x: " + term + " := a in x.", 3);
            refused("data D (x: " + term + "): Type.", 3);
            refused("data D: all x: " + term + ", Type.", 3);
            refused("data D: Type | c: all x: " + term + ", D.", 3);
        }
    }

    private static void placesOfDeclarations() {
        refused("axiom b (x: A): #a.", 3);
        refused("axiom b (x: A): (#a).", 3);
        refused("axiom b (x y: A) (z: #a): A.", 3);
        refused("axiom b: A -> #a.", 3);
        refused("def b (x: A): #a := x.", 3);
        refused("def b (x: A): p := #x.", 5);
        refused("def b (x: A): p := (#x).", 5);
        refused("def b (x: A): p := #(x: A).", 5);
        refused("lemma b: p := #f a.", 5);
        refused("def b: A -> A := #fun x: A => f.", 5);
        refused("def b (x: A): A := #f.", 5);
        refused("norm #Type99.", 6);
        refused("check (#Type99).", 6);
        refused("check f #Type99.", 6);
        refused("check (A: #Type99).", 6);
        refused("check A: (#Type99).", 6);
        refused("check #Type99: A.", 6);
        refused("axiom b: #Type99.", 6);
        refused("def b := #Type99.", 6);
        refused("check fun x: #Type99 => x.", 6);
        refused("check #Type99 -> A.", 6);
        refused("check A -> (#Type99).", 6);
        refused("check #rec N Type99.", 6);
        refused("check f (#rec N Type99).", 6);
        refused("check f #rec O Type.", 11);
        refused("check (#rec O Type0).", 11);
    }

    private static void nextSorts() {
        accepted("check Prop. check Type. check Type0. check Type1. check Type8. check Type9. check Type10. check Type97. check Type98.",
                "Type0/Type1/Type1/Type2/Type9/Type10/Type11/Type98/Type99/");
        refused("check #Type99.", 6);
        accepted("norm Type97. norm Type98.", "Type97/Type98/");
        refused("norm #Type99.", 6);
        accepted("axiom b: Type98. check b. axiom c: b -> b. check c.", "Type98/b -> b/");
        accepted("def b := Type98. check b.", "Type99/");
        refused("def b := #Type99.", 6);
        refused("def b: #Type99 := Type98.", 6);
        accepted("def b: Type98 := Type97.", "");
        accepted("check fun x: Type98 => x.", "Type98 -> Type98/");
    }

    private static void sortsOfAll() {
        accepted("check A -> A. check p -> p. check p -> A. check A -> p.", "Type0/Prop/Type0/Prop/");
        accepted("check Prop -> p. check Prop -> A. check Type -> p. check Type -> A. check A -> Type. check p -> Prop.",
                "Prop/Type0/Prop/Type1/Type1/Type0/");
        accepted("check Type98 -> p. check Type98 -> A. check A -> Type98. check Type98 -> Type98. check Type97 -> Type98. check Type98 -> Prop.",
                "Prop/Type99/Type99/Type99/Type99/Type99/");
        accepted("check all x: Prop, x. check all x: Type, x. check all x: Type98, x. check all (x: Type) (y: x), p.", "Prop/Type1/Type99/Prop/");
        accepted("check Type3 -> Type5. check Type5 -> Type3. check Type4 -> Type4. check Type5 -> Prop. check Prop -> Type5.",
                "Type6/Type6/Type5/Type6/Type6/");
        refused("check Type98 -> #Type99.", 6);
    }

    private static void sortsThatFit() {
        refused("check #Prop: Prop.", 5);
        same("check Prop: Type. check Prop: Type1. check Prop: Type98.", "accepted 1; accepted 1; accepted 1");
        same("check Type: Prop. check Type: Type. check Type: Type1. check Type: Type2.", "refused 5 at 6; refused 5 at 24; accepted 1; accepted 1");
        same("check Type9: Type9. check Type9: Type10. check Type9: Type11. check Type10: Type9.",
                "refused 5 at 6; accepted 1; accepted 1; refused 5 at 68");
        same("check Type97: Type98. check Type98: Type98. check Type98: Type99.", "accepted 1; refused 5 at 28; refused 6 at 58");
        same("check p: Prop. check p: Type. check p: Type98. check A: Prop. check A: Type. check A: Type98.",
                "accepted 2; accepted 2; accepted 2; refused 5 at 53; accepted 2; accepted 2");
        same("axiom g: Type -> A. check g Prop. check g A. check g p. check g Type. check g (A -> A). check g (A -> Type).",
                "accepted 5; accepted 4; accepted 5; accepted 5; refused 5 at 64; accepted 7; refused 5 at 97");
    }

    private static void typesThatFit() {
        // The last parts of all x : A may be less, their first parts are the same.
        same("axiom g: A -> Prop. check g: A -> Prop. check g: A -> Type. check g: A -> Type7. check g: p -> Prop.",
                "accepted 5; accepted 8; accepted 8; accepted 8; refused 5 at 87");
        same("axiom g: A -> A -> Type1. check g: A -> A -> Type. check g: A -> A -> Type1. check g: A -> A -> Type2.",
                "accepted 9; refused 5 at 32; accepted 14; accepted 14");
        same("axiom g: Type1 -> A. check g: Type1 -> A. check g: Type -> A. check g: Type2 -> A. check g: Prop -> A.",
                "accepted 5; accepted 8; refused 5 at 48; refused 5 at 68; refused 5 at 89");
        same("axiom g: (A -> Prop) -> A. check g: (A -> Prop) -> A. check g: (A -> Type) -> A.",
                "accepted 11; accepted 16; refused 5 at 60");
        same("axiom g: (Type -> Prop) -> A. check g (fun x: Type => p). check g (fun x: Type1 => p). check g (fun x: Prop => p).",
                "accepted 10; accepted 8; refused 5 at 67; refused 5 at 96");
        // But for names they are the same.
        same("axiom g: all x: Type, x -> x. check g: all y: Type, y -> y. check g: all y: Type, y -> A.",
                "accepted 9; accepted 14; refused 5 at 66");
        same("axiom g: all x y: A, Prop. check g: A -> A -> Prop.", "accepted 8; accepted 14");
        // A sort is less only as a whole type or behind all.
        same("axiom g: (Type1 -> Prop) -> Prop. axiom k: all F: Type1 -> Prop, F Prop. check fun F: Type1 -> Prop => (k F: F Prop)."
                + " check fun F: Type1 -> Prop => (k F: F Type).",
                "accepted 9; accepted 16; accepted 26; refused 5 at 149");
        same("check fun (x: A) (F: A -> Prop) (y: F x) => (y: F a).", "refused 5 at 45");
        same("check fun (F: A -> Prop) (y: F a) => (y: F a).", "accepted 26");
    }

    private static void sortsOfFamilies() {
        // 6 for the sort of the family.
        same("data D: Type97.", "accepted 0");
        same("data D: Type98.", "accepted 0");
        refused("data D: #Type99.", 6);
        refused("data D: (#Type99).", 6);
        refused("data D: A -> #Type99.", 6);
        refused("data D: A -> (A -> ((#Type99))).", 6);
        refused("data D: all x: A, #Type99.", 6);
        same("data D: Type98 -> Prop.", "accepted 1");
        refused("data D: #Type99 -> Prop.", 6);
        refused("data D (x: #Type99): Prop.", 6);
        // 10 for arguments: as great as the family's, one less, one greater.
        same("data D: Type | c: A -> D.", "accepted 4");
        same("data D: Type | c: p -> D.", "accepted 4");
        same("data D: Type | c: Prop -> D.", "accepted 3");
        refused("data D: Type | c: #Type -> D.", 10);
        refused("data D: Type | c: (#Type) -> D.", 10);
        refused("data D: Type | c: #(Type: Type1) -> D.", 10);
        refused("data D: Type | c: all x: #Type, D.", 10);
        refused("data D: Type | c: all x y: #Type, D.", 10);
        refused("data D: Type | c: (#A -> Type) -> D.", 10);
        refused("data D: Type | c: A -> #Type -> D.", 10);
        same("data D: Type1 | c: Type -> D.", "accepted 3");
        refused("data D: Type1 | c: #Type1 -> D.", 10);
        same("data D: Type98 | c: Type97 -> D.", "accepted 3");
        refused("data D: Type98 | c: #Type98 -> D.", 10);
        same("data D: Prop | c: Type98 -> D.", "accepted 3");
        refused("data D: Prop | c: #Type99 -> D.", 6);
        same("data D: Prop | c: Prop -> D.", "accepted 3");
        // The sort of the type as it is found, not that of its normal form.
        refused("data D: Type | c: (#fun x: Type1 => x) A -> D.", 10);
        same("data D: Type | c: (fun x: Type1 => p) Prop -> D.", "accepted 8");
        // Parameters and indices may be greater.
        same("data D (x: Type5): Type | c: D x.", "accepted 10");
        same("data D: Type5 -> Type | c: D A.", "accepted 10");
        refused("data D (x: Type5): Type | c: #x -> D x.", 10);
        same("data D (x: Type): Type | c: x -> D x.", "accepted 12");
    }

    private static void shapesOfFamilies() {
        refused("data D: #a.", 9);
        refused("data D: (#a).", 9);
        refused("data D: #A.", 9);
        refused("data D: #A -> A.", 9);
        refused("data D: (#A) -> a.", 9);
        refused("data D: #(A: Type) -> a.", 9);
        refused("data D: #all x: A, A.", 9);
        refused("data D: #fun x: A => Type.", 9);
        refused("data D: #let x := A in Type.", 9);
        refused("data D: #(Type: Type1).", 9);
        refused("data D: (#fun x: Type1 => x) Type.", 9);
        refused("data D: #A -> (Type: Type1).", 9);
        refused("data D: #A -> let x := A in Type.", 9);
        refused("data D: #rec N Prop.", 9);
        same("def T := Type. data D: T.", "accepted 0; refused 9 at 23");
        same("data D: (Type).", "accepted 0");
        same("data D: ((A) -> ((Type))).", "accepted 2");
        same("data D: all x y: A, A -> all (z: A) (w: A), Prop.", "accepted 9");
    }

    private static void shapesOfConstructors() {
        refused("data D: Type | c: #A.", 8);
        refused("data D: Type | c: (#A).", 8);
        refused("data D: Type | c: #A -> A.", 8);
        refused("data D: Type | c: #Type.", 8);
        refused("data D: Type | c: #(D: Type).", 8);
        refused("data D: Type | c: #D D.", 8);
        refused("data D: Type | c: #fun x: A => D.", 8);
        refused("data D: Type | c: #let x := A in D.", 8);
        refused("data D: Type | c: #A -> let x := A in D.", 8);
        refused("data D: Type | c: (#fun x: Type => x) D.", 8);
        same("data D: Type | c: (D). data E: Type | d: ((A) -> (E)).", "accepted 2; accepted 4");
        // As many terms as parameters and indices, one less, one more.
        refused("data D (x: A): A -> Type | c: #D.", 8);
        refused("data D (x: A): A -> Type | c: #D x.", 8);
        same("data D (x: A): A -> Type | c: D x a.", "accepted 22");
        refused("data D (x: A): A -> Type | c: #D x a a.", 8);
        // The parameters themselves, as names that mean them.
        same("data D (x: A): A -> Type | c: D x x.", "accepted 22");
        same("data D (x: A): A -> Type | c: D (x) (f x).", "accepted 29");
        same("data D (x: A): A -> Type | c: (D x) a.", "accepted 22");
        same("data D (x: A): A -> Type | c: ((D) ((x))) a.", "accepted 22");
        refused("data D (x: A): A -> Type | c: #D a x.", 8);
        refused("data D (x: A): A -> Type | c: #D (x: A) a.", 8);
        refused("data D (x: A): A -> Type | c: #D (f x) a.", 8);
        refused("data D (x: A): A -> Type | c: #all x: A, D x a.", 8);
        refused("data D (x: A): A -> Type | c: #all y: A, D y a.", 8);
        refused("data D (x y: A): Type | c: #D y x.", 8);
        refused("data D (x y: A): Type | c: #D x x.", 8);
        same("data D (x y: A): Type | c: D x y.", "accepted 21");
        refused("data D (x x: A): Type | c: #D x x.", 8);
        refused("data D (D: Type): Type | c: #D D.", 8);
        refused("data D: Type | c: #all D: Type, D.", 8);
        refused("data D (x: A): A -> Type | c: (#D) x.", 8);
        // In order: 8 of a constructor is met behind all of the one before.
        refused("data D: Type | c: #a -> D | d: A.", 3);
        refused("data D: Type | c: D | d: #A | e: a -> D.", 8);
        refused("data D: Type | c: #a -> A.", 8);
    }

    private static void positivity() {
        same("data D: Type | c: D -> D.", "accepted 4");
        same("data D: Type | c: (A -> D) -> D.", "accepted 8");
        same("data D: Type | c: (A -> A -> D) -> D.", "accepted 12");
        refused("data D: Type | c: (#D -> D) -> D.", 7);
        refused("data D: Type | c: (#D -> A) -> D.", 7);
        refused("data D: Type | c: (#A -> D -> D) -> D.", 7);
        refused("data D: Type | c: ((#D -> A) -> A) -> D.", 7);
        refused("data D: Type | c: A -> (#D -> A) -> D.", 7);
        refused("data D: Type | c: all x: (#D -> A), D.", 7);
        refused("data D: Type | c: all x y: #D -> A, D.", 7);
        // In normal form D may be gone.
        same("data D: Type | c: (fun x: Type => A) D -> D.", "accepted 9");
        same("data D: Type | c: (fun x: Type => x) D -> D.", "accepted 9");
        refused("data D: Type | c: (#fun x: Type => x -> A) D -> D.", 7);
        // In no index, and put to the parameters themselves.
        same("axiom k: Type -> A. data D: A -> Type | c: D (k (D a)) -> D a.", "accepted 5; refused 7 at 43");
        same("axiom k: Type -> A. data D: A -> Type | c: D (k A) -> D a.", "accepted 5; accepted 27");
        // In the indices of its own application D may stand.
        same("axiom k: Type -> A. data D: A -> Type | c: D (k (D a)). check c. check rec D Prop.", "accepted 5; accepted 25; accepted 7; accepted 29");
        refused("data D (x: A): Type | c: #D a -> D x.", 7);
        same("data D (x: A): Type | c: D x -> D x.", "accepted 20");
        refused("data D (x: A): Type | c: all y: A, #D y -> D x.", 7);
        same("data D (x: A): A -> Type | c: all y: A, D x y -> D x (f y).", "accepted 49");
        same("data D (x: A): A -> Type | c: (all y: A, D x (f y)) -> D x x.", "accepted 51");
        refused("data D (x: A): A -> Type | c: #D x x -> D a x.", 8);
        // D under a global that is no D.
        same("data L (T: Type): Type | nil: L T. data D: Type | c: L D -> D.", "accepted 10; refused 7 at 53");
    }

    private static void sortsOfRec() {
        // Any sort for a family that is not in Prop.
        same("check rec N Prop. check rec N Type. check rec N Type98. check rec N Type99.", "accepted 25; accepted 25; accepted 25; refused 6 at 62");
        // For one in Prop: no constructor, or one whose arguments are all proofs; else Prop alone.
        same("data D: Prop. check rec D Prop. check rec D Type. check rec D Type98. check rec D Type99.",
                "accepted 0; accepted 9; accepted 9; accepted 9; refused 6 at 76");
        same("data D: Prop | c: D. check rec D Type.", "accepted 2; accepted 13");
        same("data D: Prop | c: p -> D. check rec D Type.", "accepted 4; accepted 17");
        same("data D: Prop | c: p -> p -> D. check rec D Type.", "accepted 6; accepted 21");
        same("data D: Prop | c: A -> D. check rec D Prop. check rec D Type.", "accepted 4; accepted 17; refused 11 at 50");
        same("data D: Prop | c: p -> A -> D. check rec D Prop. check rec D Type.", "accepted 6; accepted 21; refused 11 at 55");
        same("data D: Prop | c: A -> p -> D. check rec D Type.", "accepted 6; refused 11 at 37");
        same("data D: Prop | c: Prop -> D. check rec D Type.", "accepted 3; refused 11 at 35");
        same("data D: Prop | c: D -> D. check rec D Type.", "accepted 4; accepted 21");
        same("data D: Prop | c: (A -> D) -> D. check rec D Type.", "accepted 8; accepted 27");
        same("data D: Prop | c: (A -> p) -> D. check rec D Type.", "accepted 8; accepted 19");
        same("check rec O Prop. check rec O Type. check rec O Type98. check rec O Type99.",
                "accepted 17; refused 11 at 24; refused 11 at 42; refused 11 at 62");
        same("data D (x: A): Prop | c: D x. check rec D Type.", "accepted 11; accepted 21");
        same("data D: A -> Prop | c: D a. check rec D Type.", "accepted 11; accepted 25");
        Bench bench = new Bench();
        bench.end(BASE + "data B: Prop. data C: Prop | c: C. data D: Prop | d: p -> D. data E: Prop | e: A -> E. data F: A -> Prop | g: all x: A, F x.");
        String[] names = {"N", "O", "B", "C", "D", "E", "F"};
        int[] free = {1, 0, 1, 1, 1, 0, 0};
        for (int i = 0; i < names.length; i++) {
            Bench.due("any sort for " + names[i], bench.about(bench.find(names[i]), 5), free[i]);
        }
    }
}
