/** The limits: of globals and of their nodes (13), of the paper (14); and texts that are long or deep. */
public final class LimitTest {
    public static void main(String[] args) {
        globalsOneByOne();
        globalsAtOnce();
        globalsAgain();
        nodes();
        nodesOfKinds();
        nodesOfFamilies();
        sharedTypes();
        limitsComeLast();
        paper();
        paperOfShow();
        paperComesLast();
        length();
        laziness();
        bigFamily();
        Bench.close("LimitTest");
    }

    /** Short names, each another one, none of them in use elsewhere. */
    private static String name(int i) {
        return "" + (char) (i < 676 ? 'a' + i / 26 : 'A' + i / 26 - 26) + (char) ('A' + i % 26);
    }

    /** A family with so many constructors. */
    private static String family(String name, int constructors) {
        StringBuilder all = new StringBuilder("data " + name + ":Type");
        for (int i = 0; i < constructors; i++) {
            all.append('|').append(name(i)).append(':').append(name);
        }
        return all.append('.').toString();
    }

    private static Bench rich() {
        Bench bench = new Bench();
        bench.fuel(10000);
        return bench;
    }

    private static void globalsOneByOne() {
        Bench bench = rich();
        bench.end(family("D", 997));
        Bench.due("998 globals", bench.globals(), 998);
        Bench.due("the 999th, the 1000th, the 1001st", bench.verdicts("axiom p:D. axiom q:D.  axiom r:D."), "accepted 2; accepted 2; refused 13 at 23");
        Bench.due("1000 globals", bench.globals(), 1000);
        Bench.due("the last one", bench.find("q"), 999);
        Bench.due("no room for a def, a lemma, a family", bench.verdicts("def r:=D. lemma r:Type:=D. data r:Prop."),
                "refused 13 at 0; refused 13 at 10; refused 13 at 27");
        Bench.due("questions need no room", bench.verdicts("check p. norm q. check p:D."), "accepted 1; accepted 2; accepted 3");
        Bench.due("r is not there", bench.find("r"), -1);
        Bench.due("one is forgotten", bench.forget(999), 1);
        Bench.due("two more are too many", bench.verdicts(" data E:Prop|e:E."), "refused 13 at 1");
        Bench.due("neither came", bench.globals(), 999);
        Bench.due("nor their names", bench.find("E") + bench.find("e"), -2);
        Bench.due("one is not", bench.verdicts("data E:Prop."), "accepted 0");
        Bench.due("leans", bench.leans(998, 0), true);
        Bench.due("leans not", bench.leans(999, 0), false);
    }

    private static void globalsAtOnce() {
        Bench bench = rich();
        Bench.due("1001 at once", bench.verdicts(family("D", 1000)), "refused 13 at 0");
        Bench.due("none of them came", bench.globals(), 0);
        Bench.due("nor D", bench.find("D"), -1);
        bench = rich();
        Bench.due("1000 at once", bench.verdicts(family("D", 999)), "accepted 1998");
        Bench.due("all of them came", bench.globals(), 1000);
        Bench.due("the last one", bench.find(name(998)), 999);
        Bench.due("its family", bench.about(999, 4), 0);
        Bench.due("how many constructors", bench.about(0, 4), 999);
        bench = rich();
        bench.end("axiom p:Prop.");
        Bench.due("1000 behind one", bench.verdicts(family("D", 999)), "refused 13 at 0");
        Bench.due("the one is left", bench.globals(), 1);
    }

    private static void globalsAgain() {
        Bench bench = rich();
        bench.end(family("D", 999));
        Bench.due("all are forgotten", bench.forget(0), 1000);
        Bench.due("and there is room", bench.verdicts("axiom p:Prop. " + family("E", 300)), "accepted 1; accepted 600");
        Bench.due("globals()", bench.globals(), 302);
    }

    /** A def with 128 * names + 2 nodes whose cost is small: its written type is large, and small in normal form. */
    private static String large(String name, int names) {
        return "def " + name + ":=fun " + "x ".repeat(names) + ":(fun h:Prop=>A)(" + "A->".repeat(60) + "A)=>x.";
    }

    /** A desk on which so many nodes are left: A has 1, e has 128 * 150 + 2, and f is an axiom or a def that fills. */
    private static Bench withLeft(int left) {
        Bench bench = rich();
        int fill = 20000 - 1 - 19202 - left;
        String arrows = "A->".repeat((fill - 1) / 2) + "A";
        bench.end("axiom A:Prop. " + large("e", 150) + (fill % 2 == 1 ? " axiom f:" + arrows + "." : " axiom f:" + arrows + ". axiom g:A."));
        Bench.due("what fills is accepted", bench.globals(), fill % 2 == 1 ? 3 : 4);
        return bench;
    }

    private static void nodes() {
        Bench bench = withLeft(2);
        Bench.due("3 nodes where 2 are left", bench.verdicts("axiom b:A->A."), "refused 13 at 0");
        Bench.due("then 1", bench.verdicts("axiom b:A."), "accepted 2");
        Bench.due("then 2 where 1 is left", bench.verdicts(" def c:=A."), "refused 13 at 1");
        Bench.due("then 1", bench.verdicts("axiom c:A."), "accepted 2");
        Bench.due("then 1 where none is left", bench.verdicts("axiom d:A."), "refused 13 at 0");
        Bench.due("nor a sort, nor a family", bench.verdicts("axiom d:Prop. data d:Prop."), "refused 13 at 0; refused 13 at 14");
        Bench.due("questions need no room", bench.verdicts("check c. check c:A. norm A->A."), "accepted 1; accepted 3; accepted 6");
        Bench.due("one is forgotten", bench.forget(bench.globals() - 1), 1);
        Bench.due("its node is free", bench.verdicts("axiom d:Prop."), "accepted 1");
        Bench.due("all are forgotten", bench.forget(0), 5);
        Bench.due("and there is room", bench.verdicts("axiom A:Prop. " + large("e", 150)), "accepted 1; accepted 575");
        bench = withLeft(1);
        Bench.due("2 nodes where 1 is left", bench.verdicts("def b:Prop:=A."), "refused 13 at 0");
        Bench.due("nothing came", bench.find("b"), -1);
        bench = withLeft(2);
        Bench.due("2 nodes where 2 are left", bench.verdicts("def b:Prop:=A. axiom c:A."), "accepted 2; refused 13 at 15");
        bench = withLeft(3);
        Bench.due("3 nodes where 3 are left", bench.verdicts("axiom b:A->A. axiom c:A."), "accepted 6; refused 13 at 14");
    }

    /** The declaration has so many nodes: it is accepted where as many are left, and refused where one less is. */
    private static void has(int nodes, String text) {
        Bench bench = withLeft(nodes);
        bench.end(text);
        Bench.due(text + " where " + nodes + " are left", bench.verdict(0, 0), 0);
        Bench.due("then none is left", bench.verdicts("axiom y:A."), "refused 13 at 0");
        bench = withLeft(nodes - 1);
        Bench.due(text + " where one less is left", bench.verdicts(text), "refused 13 at 0");
    }

    private static void nodesOfKinds() {
        has(1, "axiom b:Type98.");
        has(3, "axiom b(x:A):A.");
        has(5, "axiom b(x x:A):A.");
        has(1, "axiom b:(fun x:Prop=>x)A.");
        has(2, "def b:Type:=A.");
        has(2, "lemma b:Type:=A.");
        has(3 + 3, "def b(x:A):A:=x.");
        has(3 + 3, "lemma b(x:A):A:=x.");
        has(3 + 3, "def b(x:A):=x.");
        has(1 + 5, "def b:=(fun x:Prop=>x)A.");
        // The type is kept in normal form, the value as it is written.
        has(3 + 7, "def b(x:(fun y:Prop=>y)A):=x.");
        // A let is a node and its two or three parts.
        has(1 + 3, "def b:=let x:=A in x.");
        has(1 + 4, "def b:=let x:Prop:=A in x.");
        has(1 + 5, "def b:=let x:=A in let y:=x in y.");
        // (T : U) is T.
        has(1 + 1, "def b:=(A:Prop).");
        has(1 + 1, "def b:=((A:Prop):(Type:Type1)).");
        has(1 + 3, "def b:=let x:=(A:Prop)in(x:Prop).");
        has(3 + 3, "def b:=fun x:(A:Prop)=>(x:A).");
    }

    private static void nodesOfFamilies() {
        has(1, "data b:Type.");
        has(3, "data b:A->Type.");
        has(3, "data b(x:A):Type.");
        has(1 + 1 + 3, "data b:Type|c:b|d:b->b.");
        has(5 + 7, "data b(x:A):A->Type|c:b x x.");
        has(3 + 5, "data b(x:A):Type|c:(b) (x).");
        // What a rec needs is no global's.
        has(1 + 7, "data b:Prop|c:(A->b)->(b->b).");
    }

    private static void sharedTypes() {
        // A type of several names counts for each of them, though it is looked at once.
        Bench bench = rich();
        bench.end("axiom A:Prop.");
        Bench.due("200 names", bench.verdicts(large("f", 200)), "refused 13 at 0");
        Bench.due("200 names in a question", bench.verdicts(large("f", 200).replace("def f:=", "check ")), "accepted 725");
        Bench.due("156 names", bench.verdicts(large("f", 156)), "accepted 593");
        Bench.due("29 nodes are left for 31", bench.verdicts("axiom b:" + "A->".repeat(15) + "A."), "refused 13 at 0");
        Bench.due("and for 29", bench.verdicts("axiom b:" + "A->".repeat(14) + "A."), "accepted 58");
        Bench.due("then none", bench.verdicts("axiom c:A."), "refused 13 at 0");
        String nested = "A";
        for (int i = 0; i < 30; i++) {
            nested = "(fun h: Prop => A) (all x y z: " + nested + ", A)";
        }
        Bench.due("names in names", bench.verdicts("def g := " + nested + "."), "refused 13 at 0");
    }

    private static void limitsComeLast() {
        Bench bench = withLeft(1);
        Bench.due("each reason is met before 13", bench.verdicts("axiom b:q. axiom A:A->A. axiom b:e. def b:A->A:=A. axiom b:Type99."
                + " data b:A. data b:Prop|c:A->A. data b:Type|c:(b->b)->b."),
                "refused 1 at 8; refused 2 at 17; refused 3 at 33; refused 5 at 48; refused 6 at 59"
                + "; refused 9 at 74; refused 8 at 91; refused 7 at 112");
        bench.fuel(6);
        Bench.due("the fuel is enough", bench.verdicts("axiom b:A->A."), "refused 13 at 0");
        bench.fuel(5);
        Bench.due("the fuel is spent before", bench.verdicts("axiom b:A->A."), "out");
        bench.fuel(8);
        Bench.due("the fuel is spent at the last node", bench.verdicts("def b:A->A:=fun x:A=>x."), "out");
        bench.fuel(9);
        Bench.due("the fuel is enough for it", bench.verdicts("def b:A->A:=fun x:A=>x."), "refused 13 at 0");
    }

    /** A desk whose paper has so many bytes left. */
    private static Bench withPaper(int left) {
        Bench bench = rich();
        // w is shown with 101 names of 40 bytes, " -> " between them, and the line's end: 4441 bytes.
        String name = "N".repeat(40);
        bench.end("axiom " + name + ":Type. axiom p:Prop. axiom abcd:Prop. def q(x y:Type):=" + "x->".repeat(20) + "y."
                + " axiom w:q " + name + "(q " + name + "(q " + name + "(q " + name + "(q " + name + " " + name + ")))).");
        int rest = 32768 - left;
        for (int i = 0; i < 7; i++) {
            Bench.due("a line of w", bench.show(4), 4441);
            rest -= 4441;
        }
        // Lines of 6, 5 and 2 bytes: of the type of N, of the type of p, and p.
        StringBuilder small = new StringBuilder();
        for (; rest % 6 != 0; rest -= rest % 6 == 2 || rest % 6 == 4 ? 2 : 5) {
            small.append(rest % 6 == 2 || rest % 6 == 4 ? "norm p." : "check p.");
        }
        bench.end(small.toString());
        for (; rest > 0; rest -= 6) {
            bench.show(0);
        }
        Bench.due("bytes left", 32768 - bench.paper(), left);
        return bench;
    }

    private static void paper() {
        Bench bench = withPaper(2);
        Bench.due("5 bytes where 2 are left", bench.verdicts(" norm abcd. check p."), "refused 14 at 1; refused 14 at 12");
        Bench.due("2 bytes where 2 are left", bench.verdicts("norm p."), "accepted 2");
        Bench.due("paper()", bench.paper(), 32768);
        Bench.due("printed(32765)", bench.printed(32765), 10);
        Bench.due("printed(32766)", bench.printed(32766), 'p');
        Bench.due("printed(32767)", bench.printed(32767), 10);
        Bench.due("printed(32768)", bench.printed(32768), -1);
        Bench.due("no byte is left", bench.verdicts("norm p."), "refused 14 at 0");
        Bench.due("what prints nothing goes on", bench.verdicts("check p:Prop. axiom k:p."), "accepted 2; accepted 2");
        Bench.due("paper() still", bench.paper(), 32768);
        Bench.due("tear()", bench.tear(), 32768);
        Bench.due("then there is room", bench.verdicts("norm p."), "accepted 2");
        Bench.due("for that line", bench.read(), "p/");
        bench = withPaper(1);
        Bench.due("2 bytes where 1 is left", bench.verdicts("norm p."), "refused 14 at 0");
        Bench.due("nothing of it is printed", bench.paper(), 32767);
        bench = withPaper(5);
        Bench.due("6 bytes where 5 are left", bench.verdicts("check Prop."), "refused 14 at 0");
        Bench.due("5 bytes where 5 are left", bench.verdicts("norm abcd."), "accepted 2");
        bench = withPaper(6);
        Bench.due("6 bytes where 6 are left", bench.verdicts("check Prop."), "accepted 0");
        bench = withPaper(7);
        Bench.due("7 bytes where 7 are left, the last ones", bench.verdicts("norm p. check p. norm p."),
                "accepted 2; accepted 1; refused 14 at 17");
        Bench.due("its lines", (char) bench.printed(32761) + "" + (char) bench.printed(32763), "pP");
    }

    private static void paperOfShow() {
        Bench bench = withPaper(4);
        String before = bench.state();
        Bench.due("show of 5 bytes where 4 are left", bench.show(1), -1);
        Bench.due("changes nothing", bench.state(), before);
        bench = withPaper(5);
        Bench.due("show of 6 bytes where 5 are left", bench.show(0), -1);
        Bench.due("show of 5 bytes where 5 are left", bench.show(1), 5);
        Bench.due("paper()", bench.paper(), 32768);
        Bench.due("show where none is left", bench.show(1), -1);
        bench = withPaper(6);
        Bench.due("show of 5 bytes where 6 are left", bench.show(1), 5);
        Bench.due("show of 5 bytes where 1 is left", bench.show(1), -1);
        Bench.due("paper() then", bench.paper(), 32767);
        Bench.due("a very long line", bench.show(4), -1);
        Bench.due("tear()", bench.tear(), 32767);
        Bench.due("then it has room", bench.show(4), 4441);
    }

    private static void paperComesLast() {
        Bench bench = withPaper(1);
        Bench.due("each reason is met before 14", bench.verdicts("norm q2. check p p. check p(p:p). norm Type99."),
                "refused 1 at 5; refused 4 at 15; refused 4 at 26; refused 6 at 39");
        bench.fuel(2);
        Bench.due("the fuel is enough", bench.verdicts("norm p."), "refused 14 at 0");
        bench.fuel(1);
        Bench.due("the fuel is spent before", bench.verdicts("norm p."), "out");
    }

    private static void length() {
        Bench bench = rich();
        Bench.due("1600 arrows", bench.verdicts("axiom a: " + "Prop->".repeat(1600) + "Prop."), "accepted 4801");
        bench = rich();
        bench.end("axiom a: Prop -> Prop.");
        Bench.due("3000 arrows", bench.verdicts("axiom b: " + "a->".repeat(3000) + "a."), "refused 3 at 9");
        bench = rich();
        Bench.due("1600 arrows", bench.verdicts("norm " + "Prop->".repeat(1600) + "Prop."), "accepted 4801");
        Bench.due("their line", bench.tear(), 12805);
        bench = rich();
        Bench.due("4000 names", bench.verdicts("check fun " + "x ".repeat(4000) + ": Prop => x."), "accepted 4001");
        Bench.due("their line", bench.tear(), 32005);
        bench = rich();
        Bench.due("4096 names, but no paper for them", bench.verdicts("check fun " + "x ".repeat(4096) + ": Prop => x."), "refused 14 at 0");
        bench = rich();
        Bench.due("nested funs", bench.verdicts("norm " + "fun x: Prop => ".repeat(500) + "x."), "accepted 1502");
        bench = rich();
        Bench.due("nested lets", bench.verdicts("norm " + "let x := Prop in ".repeat(400) + "x."), "accepted 402");
        bench = rich();
        Bench.due("nested lets, of each the one before", bench.verdicts("norm let x := Prop in " + "let x := x in ".repeat(500) + "x."),
                "accepted 1003");
    }

    private static void laziness() {
        // What is never looked at costs nothing, however large it would be.
        Bench bench = rich();
        bench.end("axiom A: Type. axiom g: A -> A -> A. axiom a: A. def d (x: A) := g x x. def k (x y: A) := y.");
        Bench.due("dropped", bench.verdicts("norm k " + "(d ".repeat(60) + "a" + ")".repeat(60) + " a.") + " " + bench.torn(),
                "accepted 257 a/");
        Bench.due("not dropped", bench.verdicts("norm " + "(d ".repeat(60) + "a" + ")".repeat(60) + "."), "out");
        bench.end("data nat: Type | z: nat | s: nat -> nat. def add (n m: nat): nat := rec nat Type (fun x: nat => nat) m (fun p r: nat => s r) n."
                + " def mul (n m: nat): nat := rec nat Type (fun x: nat => nat) z (fun p r: nat => add m r) n."
                + " def ten := s (s (s (s (s (s (s (s (s (s z))))))))).");
        Bench.due("a product", bench.verdicts("norm mul ten ten."), "accepted 1533");
        Bench.due("a longer one", bench.verdicts("norm mul ten (mul ten ten)."), "out");
    }

    private static void bigFamily() {
        Bench bench = rich();
        StringBuilder all = new StringBuilder("data D:Type|z:D");
        for (int i = 0; i < 100; i++) {
            all.append("|c").append(i).append(":D->D");
        }
        Bench.due("101 constructors", bench.verdicts(all + "."), "accepted 402");
        Bench.due("its rec", bench.verdicts("check rec D Type."), "accepted 1213");
        bench.fuel(1212);
        Bench.due("its rec with less fuel", bench.verdicts("norm rec D Type."), "out");
        Bench.due("globals()", bench.globals(), 102);
    }
}
