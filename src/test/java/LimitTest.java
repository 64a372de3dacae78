/** The limits: of globals and their nodes (13), of the paper (14), and texts that are long or deep. */
public final class LimitTest {
    public static void main(String[] args) {
        globals();
        nodes();
        sharedTypes();
        paper();
        length();
        laziness();
        bigFamily();
        Bench.close("LimitTest");
    }

    private static String constructors(int from, int to) {
        StringBuilder all = new StringBuilder();
        for (int i = from; i < to; i++) {
            all.append("|c").append(i).append(":D");
        }
        return all.toString();
    }

    private static void globals() {
        Bench bench = new Bench();
        bench.desk.fuel(10000);
        Bench.due("1001 at once", bench.verdicts("data D:Type" + constructors(0, 1000) + "."), "refused 13 at 0");
        Bench.due("none of them came", bench.desk.globals(), 0);
        Bench.due("999 at once", bench.verdicts("data D:Type" + constructors(0, 998) + "."), "accepted 1996");
        Bench.due("two more are too many", bench.verdicts(" data E:Prop|e:E."), "refused 13 at 1");
        Bench.due("one more is not", bench.verdicts("check D. axiom e: D. axiom f: D."), "accepted 1; accepted 2; refused 13 at 21");
        Bench.due("globals()", bench.desk.globals(), 1000);
        Bench.due("the last one", bench.find("e"), 999);
        Bench.due("one is forgotten", bench.desk.forget(999), 1);
        Bench.due("its place is free", bench.verdicts("axiom f: D."), "accepted 2");
        Bench.due("leans", bench.desk.leans(999, 0), true);
        Bench.due("not", bench.desk.leans(999, 500), false);
        Bench.due("all are forgotten", bench.desk.forget(0), 1000);
        Bench.due("and there is room", bench.verdicts("data D:Type" + constructors(0, 999) + "."), "accepted 1998");
    }

    private static void nodes() {
        Bench bench = new Bench();
        bench.desk.fuel(10000);
        for (int i = 0; i < 10; i++) {
            Bench.due("1999 nodes", bench.verdicts("axiom a" + i + ": " + "Prop->".repeat(999) + "Prop."), "accepted 2998");
        }
        Bench.due("11 nodes", bench.verdicts("axiom b: Prop -> Prop -> Prop -> Prop -> Prop -> Prop."), "refused 13 at 0");
        Bench.due("7 nodes", bench.verdicts("axiom b: Prop -> Prop -> Prop -> Prop."), "accepted 10");
        Bench.due("4 nodes, a let with a type being one and three parts", bench.verdicts("def c := let x: Type := Prop in x."),
                "refused 13 at 0");
        Bench.due("3 nodes in all", bench.verdicts("def c: Type := Prop. axiom d: Prop."), "accepted 1; accepted 1");
        Bench.due("not one more", bench.verdicts("axiom e: Prop."), "refused 13 at 0");
        Bench.due("nor a value", bench.verdicts("def e := Prop."), "refused 13 at 0");
        Bench.due("a reason is met before", bench.verdicts("axiom e: f."), "refused 1 at 9");
        Bench.due("questions need no room", bench.verdicts("norm c."), "accepted 3");
        Bench.due("forget", bench.desk.forget(12), 1);
        Bench.due("a type and its value, (T : U) being T", bench.verdicts("def c2 := (Prop: Type1)."), "refused 13 at 0");
        Bench.due("forget more", bench.desk.forget(11), 1);
        Bench.due("now it has room", bench.verdicts("def c2 := (Prop: Type1)."), "accepted 1");
        Bench.due("forget to have 3 left", bench.desk.forget(11), 1);
        Bench.due("then 10", bench.desk.forget(10), 1);
        Bench.due("6 of them", bench.verdicts("def c3: Prop := all x: Prop, x. axiom c4: Prop. axiom c5: Prop."),
                "accepted 3; accepted 1; accepted 1");
        Bench.due("a let without a type and its type: 4", bench.verdicts("def c6 := let x := Prop in x."), "accepted 1");
        Bench.due("forget it", bench.desk.forget(13), 1);
        Bench.due("a let with a type and its type: 5", bench.verdicts("def c6 := let x: Type := Prop in x."), "refused 13 at 0");
        Bench.due("forget one more", bench.desk.forget(12), 1);
        Bench.due("now the let has room", bench.verdicts("def c6 := let x: Type := Prop in x."), "accepted 2");
        Bench.due("and nothing more", bench.verdicts("axiom c7: Prop."), "refused 13 at 0");
    }

    private static void sharedTypes() {
        // A type of several names counts for each of them, though it is looked at once.
        Bench bench = new Bench();
        bench.desk.fuel(10000);
        String type = "(fun h: Prop => A) (" + "A->".repeat(60) + "A)";
        bench.end("axiom A: Prop.");
        Bench.due("150 names", bench.verdicts("def e := fun " + "x ".repeat(150) + ": " + type + " => x."), "accepted 575");
        Bench.due("200 names", bench.verdicts("def f := fun " + "x ".repeat(200) + ": " + type + " => x."), "refused 13 at 0");
        Bench.due("200 names in a question", bench.verdicts("check fun " + "x ".repeat(200) + ": " + type + " => x."), "accepted 725");
        String nested = "A";
        for (int i = 0; i < 30; i++) {
            nested = "(fun h: Prop => A) (all x y z: " + nested + ", A)";
        }
        Bench.due("names in names", bench.verdicts("def g := " + nested + "."), "refused 13 at 0");
    }

    private static void paper() {
        Bench bench = new Bench();
        bench.desk.fuel(10000);
        bench.end("axiom ABCDEFG: Type. def t := " + "ABCDEFG -> ".repeat(744) + "ABCDEFG.");
        Bench.due("lines of 8192", bench.verdicts("norm t. norm t. norm t. norm t."),
                "accepted 1491; accepted 1491; accepted 1491; accepted 1491");
        Bench.due("paper()", bench.desk.paper(), 32768);
        Bench.due("one more is too much", bench.verdicts("check Prop: Type.  norm Prop."), "accepted 1; refused 14 at 19");
        Bench.due("and so is a show", bench.desk.show(0), -1);
        Bench.due("paper() still", bench.desk.paper(), 32768);
        Bench.due("printed(32767)", bench.desk.printed(32767), 10);
        Bench.due("tear()", bench.desk.tear(), 32768);
        Bench.due("lines again", bench.verdicts("norm t. norm t. norm t. norm ABCDEFG."),
                "accepted 1491; accepted 1491; accepted 1491; accepted 2");
        Bench.due("too long by 8", bench.verdicts("norm t."), "refused 14 at 0");
        Bench.due("a shorter one fits", bench.desk.show(0), 6);
        Bench.due("paper() then", bench.desk.paper(), 3 * 8192 + 8 + 6);
    }

    private static void length() {
        Bench bench = new Bench();
        bench.desk.fuel(10000);
        Bench.due("2600 arrows", bench.verdicts("axiom a: " + "Prop->".repeat(2600) + "Prop."), "accepted 7801");
        Bench.due("3400 arrows", bench.verdicts("axiom b: " + "a->".repeat(3400) + "a."), "refused 3 at 9");
        Bench.due("2700 arrows", bench.verdicts("norm " + "Prop->".repeat(2700) + "Prop."), "accepted 8101");
        bench.desk.tear();
        Bench.due("4000 names", bench.verdicts("check fun " + "x ".repeat(4000) + ": Prop => x."), "accepted 4001");
        Bench.due("their line", bench.desk.tear(), 32005);
        Bench.due("5000 names, but no paper for them", bench.verdicts("check fun " + "x ".repeat(5000) + ": Prop => x."), "refused 14 at 0");
        Bench.due("nested funs", bench.verdicts("norm " + "fun x: Prop => ".repeat(500) + "x."), "accepted 1502");
        Bench.due("nested lets", bench.verdicts("norm " + "let x := Prop in ".repeat(500) + "x."), "accepted 502");
        Bench.due("nested lets, of each the one before", bench.verdicts("norm let x := Prop in " + "let x := x in ".repeat(500) + "x."),
                "accepted 1003");
    }

    private static void laziness() {
        // What is never looked at costs nothing, however large it would be.
        Bench bench = new Bench();
        bench.desk.fuel(10000);
        bench.end("axiom A: Type. axiom g: A -> A -> A. axiom a: A. def d (x: A) := g x x. def k (x y: A) := y.");
        Bench.due("dropped", bench.verdicts("norm k " + "(d ".repeat(60) + "a" + ")".repeat(60) + " a.") + " " + bench.paper(),
                "accepted 257 a/");
        Bench.due("not dropped", bench.verdicts("norm " + "(d ".repeat(60) + "a" + ")".repeat(60) + "."), "out");
        bench.end("data nat: Type | z: nat | s: nat -> nat. def add (n m: nat): nat := rec nat Type (fun x: nat => nat) m (fun p r: nat => s r) n."
                + " def mul (n m: nat): nat := rec nat Type (fun x: nat => nat) z (fun p r: nat => add m r) n."
                + " def ten := s (s (s (s (s (s (s (s (s (s z))))))))).");
        Bench.due("a product", bench.verdicts("norm mul ten ten."), "accepted 1533");
        Bench.due("a longer one", bench.verdicts("norm mul ten (mul ten ten)."), "out");
    }

    private static void bigFamily() {
        Bench bench = new Bench();
        bench.desk.fuel(10000);
        StringBuilder all = new StringBuilder("data D:Type|z:D");
        for (int i = 0; i < 100; i++) {
            all.append("|c").append(i).append(":D->D");
        }
        Bench.due("101 constructors", bench.verdicts(all + "."), "accepted 402");
        Bench.due("its rec", bench.verdicts("check rec D Type."), "accepted 1213");
        bench.desk.fuel(1212);
        Bench.due("its rec with less fuel", bench.verdicts("norm rec D Type."), "out");
        Bench.due("globals()", bench.desk.globals(), 102);
    }
}
