/** What is printed, and with which names (promises 3, 7, 13). */
public final class PrintTest {
    private static final String BASE = "axiom A: Type. axiom g: A -> A -> A. axiom x: A. axiom x1: A. axiom x2: A. axiom y: A."
            + " data D: Type | d: D.";

    public static void main(String[] args) {
        brackets();
        arrows();
        names();
        recNames();
        Bench.close("PrintTest");
    }

    private static void prints(String text, String want) {
        Bench bench = new Bench();
        bench.fuel(10000);
        bench.end(BASE);
        int count = bench.end(text);
        String paper = bench.torn();
        Bench.due(text, bench.verdict(count - 1, 0) == 0 ? paper : bench.verdict(count - 1), want);
    }

    private static void brackets() {
        prints("norm (((x))).", "x/");
        prints("norm (g x) y.", "g x y/");
        prints("norm g (g x y) ((y)).", "g (g x y) y/");
        prints("norm fun f: (A -> A) -> A => f (fun u: A => u).", "fun f: (A -> A) -> A => f (fun u: A => u)/");
        prints("norm fun f: Type -> A => f Prop.", "fun f: Type0 -> A => f Prop/");
        prints("norm fun f: Type -> Prop -> A => f (A -> A) (all p: Prop, p).",
                "fun f: Type0 -> Prop -> A => f (A -> A) (all p: Prop, p)/");
        prints("norm (A -> A) -> A.", "(A -> A) -> A/");
        prints("norm A -> (A -> A).", "A -> A -> A/");
        prints("norm all P: A -> Prop, P x -> P y.", "all P: A -> Prop, P x -> P y/");
        prints("norm (all P: Prop, P) -> A.", "(all P: Prop, P) -> A/");
        prints("norm all h: (A -> A) -> A, A.", "((A -> A) -> A) -> A/");
        prints("norm fun f: (all M: D -> Type, M d -> all x: D, M x) -> A => f (rec D Type).",
                "fun f: (all M: D -> Type0, M d -> all x: D, M x) -> A => f rec D Type0/");
        prints("norm fun (f: (all M: D -> Type1, M d -> all x: D, M x) -> A) => f rec D Type1.",
                "fun f: (all M: D -> Type1, M d -> all x: D, M x) -> A => f rec D Type1/");
        prints("norm rec D Prop (fun e: D => all p: Prop, p -> p) (fun (p: Prop) (h: p) => h).",
                "rec D Prop (fun e: D => all p: Prop, p -> p) (fun p: Prop => fun h: p => h)/");
        prints("norm Type9. norm Type99.", "refused 6 at 17");
        prints("norm Type8. norm Type9. norm Type11. norm Type98.", "Type8/Type9/Type11/Type98/");
        prints("norm Type. norm Type0. norm Type10. check Prop. check Type9.", "Type0/Type0/Type10/Type0/Type10/");
    }

    private static void arrows() {
        prints("norm all u v w: A, A.", "A -> A -> A -> A/");
        prints("norm all P: A -> Prop, all u v: A, P u.", "all P: A -> Prop, all u: A, A -> P u/");
        prints("check fun (u v: A) (P: A -> Prop) (h: P u) => h.", "all u: A, A -> all P: A -> Prop, P u -> P u/");
        prints("norm fun u v: A => u.", "fun u: A => fun v: A => u/");
        prints("norm fun (P: all x: A, (fun z: A => Prop) x) => P x.", "fun P: A -> Prop => P x/");
    }

    private static void names() {
        // A global with the name is in the last part.
        prints("norm (fun u v: A => g u v) x.", "fun v: A => g x v/");
        prints("norm (fun u x: A => g u x) x.", "fun x1: A => g x x1/");
        prints("norm (fun u v x: A => g u (g v x)) x x1.", "fun x2: A => g x (g x1 x2)/");
        prints("norm (fun u v w x: A => g (g u v) (g w x)) x x1 x2.", "fun x3: A => g (g x x1) (g x2 x3)/");
        prints("norm (fun u v x: A => g u (g v x)) x1 x2.", "fun x: A => g x1 (g x2 x)/");
        // Also when its own variable is not in it.
        prints("norm (fun u x: A => u) x.", "fun x1: A => x/");
        // Not when it is in the type alone.
        prints("norm fun A: A => A.", "fun A: A => A/");
        prints("norm fun D: D => D.", "fun D: D => D/");
        prints("norm fun D: D => rec D Prop.", "fun D: D => rec D Prop/");
        // A free variable with the name is in the last part.
        prints("norm fun x: A => (fun u x: A => g u x) x.", "fun x: A => fun x1: A => g x x1/");
        prints("norm fun x: A => fun x: A => g x x.", "fun x: A => fun x: A => g x x/");
        prints("norm fun x: A => (fun u x: A => (fun v x: A => g u (g v x)) x) x.",
                "fun x: A => fun x1: A => fun x2: A => g x (g x1 x2)/");
        prints("norm fun x1: A => (fun u x: A => (fun v x: A => g u (g v x)) x) x1.",
                "fun x1: A => fun x: A => fun x2: A => g x1 (g x x2)/");
        prints("norm fun x: A => (fun u x: A => fun x1: A => g u (g x x1)) x.",
                "fun x: A => fun x1: A => fun x11: A => g x (g x1 x11)/");
        prints("norm fun x12: A => (fun u x1: A => (fun v x: A => (fun w x: A => g (g u v) (g w x)) x) x1) x12.",
                "fun x12: A => fun x1: A => fun x: A => fun x2: A => g (g x12 x1) (g x x2)/");
        prints("axiom x3: A. axiom x4: A. axiom x5: A. axiom x6: A. axiom x7: A. axiom x8: A. axiom x9: A."
                + " norm (fun (u v: A) (x: A) => g u (g v (g (g (g x1 x2) (g x3 x4)) (g (g x5 x6) (g x7 (g x8 x)))))) x x9."
                + " axiom x10: A. norm (fun (u v: A) (x: A) => g x10 (g v (g (g (g x1 x2) (g x3 x4)) (g (g x5 x6) (g x7 (g x8 (g u x))))))) x x9."
                + " norm (fun (u: A) (x: A) => g u (g (g (g x1 x2) (g x3 x4)) (g (g x5 x6) (g x7 (g x8 x))))) x.",
                "fun x10: A => g x (g x9 (g (g (g x1 x2) (g x3 x4)) (g (g x5 x6) (g x7 (g x8 x10)))))"
                + "/fun x11: A => g x10 (g x9 (g (g (g x1 x2) (g x3 x4)) (g (g x5 x6) (g x7 (g x8 (g x x11))))))"
                + "/fun x9: A => g x (g (g (g x1 x2) (g x3 x4)) (g (g x5 x6) (g x7 (g x8 x9))))/");
        prints("norm fun x': A => (fun u x: A => g u x) x'.", "fun x': A => fun x: A => g x' x/");
        prints("norm fun xx: A => (fun u x: A => g u x) xx.", "fun xx: A => fun x: A => g xx x/");
        prints("norm fun x01: A => (fun u x0: A => g u x0) x01.", "fun x01: A => fun x0: A => g x01 x0/");
        // A name of 40 bytes with a number has 41; the number is the least, and may have two digits.
        String forty = "abcdefghijklmnopqrstuvwxyzABCDEFGHIJKLMN";
        prints("norm fun " + forty + ": A => (fun u " + forty + ": A => g u " + forty + ") " + forty + ".",
                "fun " + forty + ": A => fun " + forty + "1: A => g " + forty + " " + forty + "1/");
        prints("axiom " + forty + ": A. norm (fun u " + forty + ": A => g u " + forty + ") " + forty + ".",
                "fun " + forty + "1: A => g " + forty + " " + forty + "1/");
        String less = forty.substring(1);
        prints("axiom " + less + ": A. axiom " + less + "1: A. norm (fun u v " + less + ": A => g u (g v " + less + ")) " + less + " " + less + "1.",
                "fun " + less + "2: A => g " + less + " (g " + less + "1 " + less + "2)/");
        // The free variables are those of the fun or all, also those that are free in it under other ones.
        prints("norm fun x: A => fun v: A => (fun u x: A => fun w: A => g u (g v x)) x.",
                "fun x: A => fun v: A => fun x1: A => fun w: A => g x (g v x1)/");
        prints("norm fun x: A => (fun u x: A => fun w: A => g w x) x.", "fun x: A => fun x: A => fun w: A => g w x/");
        prints("norm fun x: A => (fun u x: A => fun x: A => g u x) x.", "fun x: A => fun x1: A => fun x1: A => g x x1/");
        // An all whose variable is not in its last part has no name, so it takes none.
        prints("norm fun P: A -> Prop => all x: A, (fun u: A => all x: A, P u) x.", "fun P: A -> Prop => all x: A, A -> P x/");
        prints("norm all P: A -> A -> Prop, all x: A, (fun u: A => all x: A, P u x) x.",
                "all P: A -> A -> Prop, all x: A, all x1: A, P x x1/");
    }

    private static void recNames() {
        prints("data N: D -> D -> Prop | n: all M: D, D -> N M M. check rec N Prop.",
                "all M: all x: D, all x1: D, N x x1 -> Prop, "
                + "(all M1: D, all x: D, M M1 M1 (n M1 x)) -> all x: D, all x1: D, all x2: N x x1, M x x1 x2/");
        prints("axiom M: D. data N: D -> Prop | n: N M. check rec N Prop.",
                "all M1: all x: D, N x -> Prop, M1 M n -> all x: D, all x1: N x, M1 x x1/");
        prints("data N (M: Type): Type | n: M -> N M. check rec N Prop.",
                "all M: Type0, all M1: N M -> Prop, (all x: M, M1 (n M x)) -> all x: N M, M1 x/");
        prints("data W: Type | w: (D -> W) -> W. check rec W Type.",
                "all M: W -> Type0, (all x: D -> W, (all x1: D, M (x x1)) -> M (w x)) -> all x: W, M x/");
        prints("data W: Type | w: (D -> W) -> W."
                + " norm fun f: D -> W => rec W Type (fun v: W => D -> D) (fun (f: D -> W) (r: D -> D -> D) (e: D) => r e e) (w f).",
                "fun f: D -> W => fun e: D => rec W Type0 (fun v: W => D -> D) "
                + "(fun f: D -> W => fun r: D -> D -> D => fun e: D => r e e) (f e) e/");
        prints("data W: Type | w: (all i: D, W) -> W. axiom k: (D -> W) -> W."
                + " norm fun f: D -> W => rec W Type (fun v: W => W) (fun (f r: D -> W) => k r) (w f).",
                "fun f: D -> W => k (fun i: D => rec W Type0 (fun v: W => W) (fun f: D -> W => fun r: D -> W => k r) (f i))/");
    }
}
