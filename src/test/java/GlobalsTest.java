/** Promises 9 to 14: globals, find, about, leans, show, forget. */
public final class GlobalsTest {
    public static void main(String[] args) {
        globals();
        find();
        about();
        leans();
        show();
        forget();
        Bench.close("GlobalsTest");
    }

    private static Bench filled() {
        Bench bench = new Bench();
        bench.end("axiom A: Type. axiom a: A. def d (x: A): A := x. lemma l: A := d a."
                + " data nat: Type | z: nat | s: nat -> nat. def one := s z.");
        return bench;
    }

    private static void globals() {
        Bench bench = filled();
        Bench.due("globals()", bench.globals(), 8);
        bench.end("axiom q: w. axiom A: Type. norm A. check A. check A: Type.");
        Bench.due("refused and questions bring none", bench.globals(), 8);
        bench.end("axiom q: A.");
        Bench.due("one more", bench.globals(), 9);
        Bench.due("it is the last", bench.find("q"), 8);
        bench.end("data D: Type | c: D | e: z.");
        Bench.due("a data that is refused brings none", bench.globals(), 9);
        Bench.due("nor its name", bench.find("D"), -1);
        bench.end("axiom r (D: Type): D -> Type.");
        bench.end("data D: Type | c: D | e: z.");
        Bench.due("nor a name that was known", bench.find("D"), -1);
        bench.end("data D: Type | c: D | ");
        Bench.due("nor when it is unreadable", bench.verdicts("check D."), "refused 1 at 6");
    }

    private static void find() {
        Bench bench = filled();
        Bench.due("find A", bench.find("A"), 0);
        Bench.due("find nat", bench.find("nat"), 4);
        Bench.due("find z", bench.find("z"), 5);
        Bench.due("find s", bench.find("s"), 6);
        Bench.due("find one", bench.find("one"), 7);
        Bench.due("find x, a variable's", bench.find("x"), -1);
        Bench.due("find on", bench.find("on"), -1);
        Bench.due("find ones", bench.find("ones"), -1);
        Bench.due("find axiom", bench.find("axiom"), -1);
        Bench.due("find with a blank", bench.find("one "), -1);
        Bench.due("find M", bench.find("M"), -1);
        bench.feed("one");
        Bench.due("find(0)", bench.find(0), -1);
        Bench.due("find(-1)", bench.find(-1), -1);
        Bench.due("find(21)", bench.find(21), -1);
        Bench.due("nothing was changed", bench.find(3), 7);
        Bench.due("all bytes are gone", bench.find(1), -1);
        bench.feed("qqq");
        Bench.due("not there", bench.find(3), -1);
        Bench.due("all bytes are gone then too", bench.find(1), -1);
        bench.feed("one");
        Bench.due("the first n bytes alone", bench.find(2), -1);
        bench.end("axiom name_of_twenty_bytes: A. axiom name_of_20_bytes_xxx: A.");
        bench.feed("name_of_20_bytes_xxx");
        Bench.due("all bytes are the name", bench.find(20), 9);
    }

    private static void about() {
        Bench bench = filled();
        int[][] want = {
            {0, 1, 0, 0, 0, 0}, {0, 1, 0, 0, 0, 0}, {1, 3, 0, 0, 0, 0}, {2, 1, 0, 0, 0, 0},
            {3, 1, 0, 0, 2, 1}, {4, 1, 0, 0, 4, 0}, {4, 3, 0, 1, 4, 0}, {1, 1, 0, 0, 0, 0}};
        for (int g = 0; g < want.length; g++) {
            for (int what = 0; what < 6; what++) {
                Bench.due("about(" + g + ", " + what + ")", bench.about(g, what), want[g][what]);
            }
            Bench.due("about(" + g + ", -1)", bench.about(g, -1), -1);
            Bench.due("about(" + g + ", 6)", bench.about(g, 6), -1);
        }
        Bench.due("about(8, 0)", bench.about(8, 0), -1);
        Bench.due("about(-1, 0)", bench.about(-1, 0), -1);
        bench.end("data ex (A B: Type) (P: A -> Prop): nat -> A -> Prop | ei: all (a b: A), P a -> ex A B P z b.");
        int[] family = {3, 13, 3, 2, 1, 0};
        int[] constructor = {4, 27, 3, 3, 8, 0};
        for (int what = 0; what < 6; what++) {
            Bench.due("about(ex, " + what + ")", bench.about(8, what), family[what]);
            Bench.due("about(ei, " + what + ")", bench.about(9, what), constructor[what]);
        }
    }

    private static void leans() {
        Bench bench = filled();
        bench.end("data D (n: nat): Type | c: A -> D n | e: D n. data E: Type. def k: nat := (z: (fun x: E => nat) -> nat)."
                + "def m: nat := let x: E -> E := fun y: E => y in one. def r := rec E Prop. lemma b: D one := e one."
                + "def w := (one: (fun x: Type => nat) E).");
        String[] names = {"A", "a", "d", "l", "nat", "z", "s", "one", "D", "c", "e", "E", "m", "r", "b", "w"};
        String[] want = {
            "", "A", "A", "A a d", "nat", "nat", "nat", "nat z s", "A nat D", "A nat D", "A nat D", "",
            "nat z s one E", "E", "A nat z s one D e", "nat z s one"};
        int[] numbers = new int[names.length];
        for (int i = 0; i < names.length; i++) {
            numbers[i] = bench.find(names[i]);
        }
        for (int i = 0; i < names.length; i++) {
            StringBuilder got = new StringBuilder();
            for (int j = 0; j < names.length; j++) {
                if (bench.leans(numbers[i], numbers[j])) {
                    got.append(got.length() == 0 ? "" : " ").append(names[j]);
                }
            }
            Bench.due(names[i] + " leans on", got.toString(), want[i]);
        }
        // In the type that a let tells, in that of a fun, in a value that is dropped; not in the U of (T : U).
        Bench kept = new Bench();
        kept.end("axiom A: Type. axiom B: Type. axiom C: Type. axiom D: Type. axiom a: A. def k (X Y: Type) := X."
                + " def m := let x: k A B := a in x. def n := fun x: k A C => x. def o := k A D. def q := (a: k A B). lemma r: A := (fun x: Type => a) C."
                + " axiom s: k A B. def t: k A B := a. def u := let x: A := (a: k A D) in let y: k A C := x in y.");
        String[] kin = {"m ABak", "n ACk", "o ADk", "q Aa", "r ACa", "s A", "t Aa", "u ACak"};
        for (String line : kin) {
            StringBuilder got = new StringBuilder();
            int g = kept.find(line.substring(0, 1));
            for (char h : "ABCDak".toCharArray()) {
                got.append(kept.leans(g, kept.find("" + h)) ? "" + h : "");
            }
            Bench.due(line.charAt(0) + " leans on", got.toString(), line.substring(2));
        }
        // By way of one global alone, the only one, the first one or the last one.
        Bench chain = new Bench();
        chain.end("axiom A: Type. axiom B: A -> Type. data D: Type | d: A -> D. axiom e: D. axiom f: D -> Prop. lemma g: Type := D. axiom P: D -> D -> Prop."
                + " axiom h: Prop -> D. axiom i: D -> Prop -> Prop. def j := e. axiom k: Prop. axiom l: k -> k.");
        String[] onA = {"B", "D", "d", "e", "f", "g", "P", "h", "i", "j"};
        for (String name : onA) {
            Bench.due(name + " leans on A", chain.leans(chain.find(name), 0), true);
        }
        Bench.due("j leans on D, as e does", chain.leans(chain.find("j"), 2), true);
        Bench.due("A does not lean on itself", chain.leans(0, 0), false);
        Bench.due("D does", chain.leans(2, 2), true);
        Bench.due("d leans on D, but not on itself", (chain.leans(3, 2) ? 1 : 0) + (chain.leans(3, 3) ? 2 : 0), 1);
        Bench.due("l leans on k, but not on A", (chain.leans(12, 11) ? 1 : 0) + (chain.leans(12, 0) ? 2 : 0), 1);
        Bench.due("leans(-1, 0)", bench.leans(-1, 0), false);
        Bench.due("leans(1, -1)", bench.leans(1, -1), false);
        Bench.due("leans(1, 99)", bench.leans(1, 99), false);
        Bench.due("leans(99, 1)", bench.leans(99, 1), false);
    }

    private static void show() {
        Bench bench = filled();
        Bench.due("show(0)", bench.show(0), 6);
        Bench.due("show(2)", bench.show(2), 7);
        Bench.due("show(6)", bench.show(6), 11);
        Bench.due("show(8)", bench.show(8), -1);
        Bench.due("show(-1)", bench.show(-1), -1);
        Bench.due("paper", bench.torn(), "Type0/A -> A/nat -> nat/");
    }

    private static void forget() {
        Bench bench = filled();
        Bench.due("forget(9)", bench.forget(9), -1);
        Bench.due("forget(-1)", bench.forget(-1), -1);
        Bench.due("forget(5), a constructor", bench.forget(5), -1);
        Bench.due("forget(6), a constructor", bench.forget(6), -1);
        Bench.due("nothing went", bench.globals(), 8);
        Bench.due("forget(8)", bench.forget(8), 0);
        Bench.due("forget(7)", bench.forget(7), 1);
        Bench.due("it is no more", bench.find("one"), -1);
        Bench.due("find z still", bench.find("z"), 5);
        Bench.due("its name is free", bench.verdicts("def one: A := a. norm one."), "accepted 3; accepted 3");
        Bench.due("forget(4), a family", bench.forget(4), 4);
        Bench.due("globals()", bench.globals(), 4);
        Bench.due("about(4, 0)", bench.about(4, 0), -1);
        Bench.due("show(4)", bench.show(4), -1);
        Bench.due("leans(4, 0)", bench.leans(4, 0), false);
        Bench.due("nat means nothing", bench.verdicts("norm nat."), "refused 1 at 5");
        Bench.due("names come again in another order", bench.verdicts("data s: Type | nat: s | z: s -> s. norm z (z nat)."),
                "accepted 6; accepted 16");
        Bench.due("numbers too", bench.find("s"), 4);
        bench.tear();
        Bench.due("shown", bench.shown("z"), "s -> s/");
        bench.end("axiom R: A -> A -> Prop. axiom t (u v: A): R u v -> all w: A, R w u. def k (p q: A) (h: R p q) := h."
                + " data W (P: A -> Prop): Type | w: all a: A, P a -> (all b: A, W P) -> W P.");
        Bench.due("forget(9)", bench.forget(9), 3);
        bench.end("def k (m n: A) (o: R m n) := o. def j (r: A) := fun s: R r r => s. data V: A -> Prop | v: all c: A, V c.");
        bench.tear();
        Bench.due("what was before is as it was", bench.shown("t"), "all u: A, all v: A, R u v -> all w: A, R w u/");
        Bench.due("what came again", bench.shown("k"), "all m: A, all n: A, R m n -> R m n/");
        Bench.due("what came new", bench.shown("j"), "all r: A, R r r -> R r r/");
        Bench.due("and its rec", bench.verdicts("check rec V Prop.") + " " + bench.torn(), "accepted 29 "
                + "all M: all x: A, V x -> Prop, (all c: A, M c (v c)) -> all x: A, all x1: V x, M x x1/");
        bench.end("def twice (n: s): s := rec s Type (fun m: s => s) nat (fun p r: s => z (z r)) n."
                + " data T: Type | tip: T | fork: T -> T -> T.");
        Bench.due("a family with calls goes", bench.forget(14), 3);
        bench.end("data U: Type | u: U | uu: U -> U -> U. norm twice (z (z nat)).");
        Bench.due("the calls of others stay", bench.torn(), "z (z (z (z nat)))/");
        bench.end("norm rec U Type (fun v: U => s) nat (fun (v w: U) (p q: s) => z q) (uu u (uu u u)).");
        Bench.due("and its own are right", bench.torn(), "z (z nat)/");
        bench.end("norm z (z nat). norm z (z nat).");
        Bench.due("verdicts and paper stay", bench.forget(0), 17);
        Bench.due("verdict stays", bench.verdict(1), "accepted 16");
        Bench.due("nothing is left", bench.globals(), 0);
        Bench.due("a new start", bench.verdicts("axiom A: Prop. def a: Prop := A -> A. norm a."), "accepted 1; accepted 4; accepted 5");
    }
}
