/** The text: its blanks, tokens, grammar, depth and fault (promise 3), and what its names mean. */
public final class TextTest {
    public static void main(String[] args) {
        remarks();
        tokens();
        grammar();
        depth();
        names();
        Bench.close("TextTest");
    }

    private static void same(String text, String want) {
        Bench bench = new Bench();
        bench.end("axiom a: Prop. axiom f: Prop -> Prop -> Prop.");
        Bench.due(text, bench.verdicts(text), want);
    }

    private static void remarks() {
        same("check a.-- check b.", "accepted 1");
        same("check a.-- check b.\ncheck a.", "accepted 1; accepted 1");
        same("check -- {- \na.", "accepted 1");
        same("check {- -- -} a.", "accepted 1");
        same("check a.{- -}", "accepted 1");
        same("check a.{--}", "accepted 1");
        same("check a.{-}", "accepted 1; unreadable at 8");
        same("{-{--}-}check{-x-}a{--}.", "accepted 1");
        same("{-}check a.-}check a.", "accepted 1");
        same("check a. {- {- -}", "accepted 1; unreadable at 9");
        same("check {-} a.", "unreadable at 6");
        same("check a. {-", "accepted 1; unreadable at 9");
        same("check a. {", "accepted 1; unreadable at 9");
        same("check a. -", "accepted 1; unreadable at 9");
        same("check --> a.\na.", "accepted 1");
    }

    private static void tokens() {
        same("check Type.check Type0.check Type9.check Type10.check Type98.",
                "accepted 0; accepted 0; accepted 0; accepted 0; accepted 0");
        same("check Type99.", "refused 6 at 6");
        same("check Type00.", "refused 1 at 6");
        same("check Type01.", "refused 1 at 6");
        same("check Type100.", "refused 1 at 6");
        same("check Type1'.", "refused 1 at 6");
        same("check Props.", "refused 1 at 6");
        same("check Xype1.check Txpe1.check Tyxe1.check Typx1.check TypeX.check Type1X.",
                "refused 1 at 6; refused 1 at 18; refused 1 at 30; refused 1 at 42; refused 1 at 54; refused 1 at 66");
        same("axiom azAZ09_': Prop.check azAZ09_'.axiom ZzAa90: Prop.axiom z: Prop.axiom Z: Prop.",
                "accepted 1; accepted 1; accepted 1; accepted 1; accepted 1");
        same("check [.", "unreadable at 6");
        same("check @.", "unreadable at 6");
        same("check `.", "unreadable at 6");
        same("check {.", "unreadable at 6");
        same("check /.", "unreadable at 6");
        same("check a\u000b.", "unreadable at 7");
        same("check a\u00e9.", "unreadable at 7");
        same("check inn.", "refused 1 at 6");
        same("check in.", "unreadable at 6");
        same("check 'a.", "unreadable at 6");
        same("check 1.", "unreadable at 6");
        same("check a;.", "unreadable at 7");
        same("check a - > a.", "unreadable at 8");
        same("axiom _'0: Prop.check _'0.", "accepted 1; accepted 1");
        String forty = "abcdefghijklmnopqrstuvwxyzABCDEFGHIJKLMN";
        same("axiom " + forty + ": Prop.check " + forty + ".", "accepted 1; accepted 1");
        same("axiom " + forty + "O: Prop.", "unreadable at 6");
        same("check a. " + forty + "O", "accepted 1; unreadable at 9");
        same("def b:=a.check fun(x:Prop)=>x->x.", "accepted 1; accepted 4");
        same("def b : = a.", "unreadable at 8");
    }

    private static void grammar() {
        same("", "");
        same("a", "unreadable at 0");
        same(".", "unreadable at 0");
        same("check a", "unreadable at 7");
        same("check q -> (", "unreadable at 12");
        same("axiom a (", "unreadable at 9");
        same("check a. check", "accepted 1; unreadable at 14");
        same("check a. check  ", "accepted 1; unreadable at 16");
        same("check .", "unreadable at 6");
        same("check a..", "accepted 1; unreadable at 8");
        same("check a: Prop: Type.", "unreadable at 13");
        same("norm a: Prop.", "unreadable at 6");
        same("axiom: Prop.", "unreadable at 5");
        same("axiom b := a.", "unreadable at 8");
        same("axiom b (: Prop): Prop.", "unreadable at 9");
        same("axiom b (x: Prop): Prop.", "accepted 4");
        same("axiom b (x): Prop.", "unreadable at 10");
        same("axiom b x: Prop.", "unreadable at 8");
        same("axiom b: Prop := a.", "unreadable at 14");
        same("def b: Prop.", "unreadable at 11");
        same("def b: Prop := a := a.", "unreadable at 17");
        same("lemma b := a.", "unreadable at 8");
        same("lemma b: Prop := a.", "accepted 2");
        same("data b.", "unreadable at 6");
        same("data b := Prop.", "unreadable at 7");
        same("data b: Prop | : b.", "unreadable at 15");
        same("data b: Prop | c b.", "unreadable at 17");
        same("data b: Prop || c: b.", "unreadable at 14");
        same("data b: Prop | c: b | .", "unreadable at 22");
        same("data b: Prop.", "accepted 0");
        same("check fun => a.", "unreadable at 10");
        same("check fun x => a.", "unreadable at 12");
        same("check fun x: Prop, a.", "unreadable at 17");
        same("check all x: Prop => a.", "unreadable at 18");
        same("check fun (x: Prop) y: Prop => x.", "unreadable at 20");
        same("check fun x: Prop (y: Prop) => x.", "refused 1 at 19");
        same("check fun (x: Prop)(y: Prop) => x.", "accepted 3");
        same("check all x y: Prop, x.", "accepted 3");
        same("check f fun x: Prop => x.", "unreadable at 8");
        same("check a -> fun x: Prop => x.", "refused 3 at 11");
        same("check a -> .", "unreadable at 11");
        same("check -> a.", "unreadable at 6");
        same("check let x := a in x.", "accepted 2");
        same("check let x: Prop := a in x.", "accepted 3");
        same("check let x y := a in x.", "unreadable at 12");
        same("check let x := a.", "unreadable at 16");
        same("check let x: Prop in x.", "unreadable at 18");
        same("check let fun := a in a.", "unreadable at 10");
        same("check rec a.", "unreadable at 11");
        same("check rec Prop a.", "unreadable at 10");
        same("check rec (a) Prop.", "unreadable at 10");
        same("check (a.", "unreadable at 8");
        same("check (a: Prop.", "unreadable at 14");
        same("check (a: Prop: Type).", "unreadable at 14");
        same("check ().", "unreadable at 7");
        same("check (a: Prop).", "accepted 2");
        same("check a).", "unreadable at 7");
        same("check a | a.", "unreadable at 8");
        same("check axiom.", "unreadable at 6");
    }

    private static void depth() {
        same("norm ((a)).", "accepted 2");
        same("check " + "(".repeat(99) + "a" + ")".repeat(99) + ".", "accepted 1");
        same("check " + "(".repeat(100) + "a" + ")".repeat(100) + ".", "unreadable at 106");
        same("check " + "(".repeat(100) + ").", "unreadable at 106");
        same("check " + "(".repeat(100), "unreadable at 106");
        same("check " + "(".repeat(99) + "a -> a -> a" + ")".repeat(99) + ".", "accepted 5");
        same("check " + "(".repeat(99) + "fun x: a => x" + ")".repeat(99) + ".", "unreadable at 112");
        same("check " + "(".repeat(98) + "fun x: a => fun y: a => x" + ")".repeat(98) + ".", "accepted 5");
        same("check " + "(".repeat(99) + "let x := a in x" + ")".repeat(99) + ".", "unreadable at 114");
        same("check " + "(".repeat(98) + "a: Prop" + ")".repeat(98) + ".", "accepted 2");
        same("check " + "(".repeat(99) + "a: Prop" + ")".repeat(99) + ".", "accepted 2");
        same("axiom b (x: " + "(".repeat(99) + "a" + ")".repeat(99) + "): a.", "accepted 6");
        same("check " + "a -> ".repeat(300) + "a.", "accepted 601");
        same("check " + "let x := (a) in ".repeat(150) + "(a).", "accepted 151");
        same("check " + "let x: (Prop) := (a) in ".repeat(150) + "(a).", "accepted 301");
        same("check " + "fun x: (Prop) => ".repeat(150) + "(a).", "accepted 151");
        same("check " + "all (x: (Prop)) (y: Prop), ".repeat(150) + "(a).", "accepted 301");
        same("check f" + " (a)".repeat(2) + ".", "accepted 11");
        same("check " + "(a) -> ".repeat(150) + "(a: Prop).", "accepted 302");
    }

    private static void names() {
        same("axiom a: Prop.", "refused 2 at 6");
        same("axiom b: c. ", "refused 1 at 9");
        same("def b (x: y) (y: Prop): x := z.", "refused 1 at 10");
        same("def b: b := a.", "refused 1 at 7");
        same("def b: Prop := b.", "refused 1 at 15");
        same("def a: b := c.", "refused 2 at 4");
        same("check let x: Prop := x in x.", "refused 1 at 21");
        same("check fun x: x => x.", "refused 1 at 13");
        same("check fun (x: Prop) (y: x) => y.", "accepted 4");
        same("check fun x y: x => y.", "refused 1 at 15");
        same("check fun (x: Prop) (x: x) => x.", "accepted 4");
        same("check fun a: Type => a.", "accepted 2");
        same("check (a: c) b.", "refused 1 at 10");
        same("check rec a Prop.", "refused 12 at 10");
        same("check rec c Prop.", "refused 12 at 10");
        same("check fun x: Prop => rec x Prop.", "refused 12 at 25");
        same("data b: Prop | c: b -> b | d: rec b Prop.", "refused 12 at 34");
        same("data b: Prop. check fun b: Prop => rec b Prop.", "accepted 0; accepted 10");
        same("data b: Prop | c: b | c: b.", "refused 2 at 22");
        same("data b: Prop | b: b.", "refused 2 at 15");
        same("data b: Prop | a: b.", "refused 2 at 15");
        same("data b (x: b): Prop.", "refused 1 at 11");
        same("data b: b -> Prop.", "refused 1 at 8");
        same("data b: Prop | c: b | d: c.", "refused 1 at 25");
        same("data b: Prop | c: d | d: b.", "refused 1 at 18");
        same("data b (x: Prop): Prop | x: b x. check x.", "accepted 10; accepted 5");
        same("data b: nat | c: b.", "refused 1 at 8");
        same("axiom b: Prop. check b. axiom b: Prop.", "accepted 1; accepted 1; refused 2 at 30");
    }
}
