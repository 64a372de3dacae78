/** The bounds of a text: of its blanks, remarks, names, sorts and depths, and where its fault is (promises 3 and 5). */
public final class TextBoundsTest {
    private static final String FORTY = "abcdefghijklmnopqrstuvwxyzABCDEFGHIJKLMN";

    public static void main(String[] args) {
        blanks();
        lineRemarks();
        remarks();
        nameBytes();
        nameLengths();
        words();
        sorts();
        signs();
        manyAndNone();
        depthOfBrackets();
        depthOfParts();
        depthOfEnds();
        faultOfDepth();
        faultAtEnd();
        faultOfCuts();
        checkedBeforeFault();
        Bench.close("TextBoundsTest");
    }

    private static void same(String text, String want) {
        Bench bench = new Bench();
        bench.end("axiom a: Prop. axiom f: Prop -> Prop -> Prop.");
        Bench.due(text, bench.verdicts(text), want);
    }

    private static void blanks() {
        for (int c = 0; c < 256; c++) {
            String text = "check" + (char) c + "a" + (char) c + "." + (char) c;
            boolean blank = c == 9 || c == 10 || c == 13 || c == 32;
            // Letters, digits, _ and ' make another name of it, and brackets another term.
            boolean inName = c >= 'a' && c <= 'z' || c >= 'A' && c <= 'Z' || c >= '0' && c <= '9' || c == '_' || c == '\'';
            String want = blank ? "accepted 1" : inName ? "unreadable at 0" : c == '(' ? "unreadable at 8" : "unreadable at 5";
            same(text, want);
        }
        same("\t\n\r \t\n\r check\t\n\r a\t\n\r .\t\n\r ", "accepted 1");
        same("", "");
        same(" ", "");
        same("\t\n\r ", "");
        same("\u000b", "unreadable at 0");
        same("\f", "unreadable at 0");
        same("\0", "unreadable at 0");
        same("check a.\0", "accepted 1; unreadable at 8");
    }

    private static void lineRemarks() {
        same("--", "");
        same("-", "unreadable at 0");
        same("---", "");
        same("--\n", "");
        same("--\ncheck a.", "accepted 1");
        same("--\rcheck a.", "");
        same("--check a.\rcheck a.\ncheck a.", "accepted 1");
        same("check a.--", "accepted 1");
        same("check a.-", "accepted 1; unreadable at 8");
        same("check a--\n.", "accepted 1");
        same("check a--.", "unreadable at 10");
        same("check a--\n--\n--.\n.", "accepted 1");
        same("check a -- (.{- \u00ff\0\n.", "accepted 1");
        same("check a->--\na.", "accepted 3");
        same("check a-->a.", "unreadable at 12");
        same("check a-- >\n.", "accepted 1");
        same("check a- -\n.", "unreadable at 7");
        // The end of the text ends it as byte 10 does.
        Bench bench = new Bench();
        bench.feed("check Prop.-- x\ncheck Prop.");
        Bench.due("cut within a remark", bench.end(13), 1);
        bench.feed("check Prop.-- x\ncheck Prop.");
        Bench.due("cut behind its first sign", bench.end(12), 2);
        Bench.due("so it is none", bench.verdicts(), "accepted 0; unreadable at 11");
    }

    private static void remarks() {
        same("{--}", "");
        same("{-", "unreadable at 0");
        same("{", "unreadable at 0");
        same("{-}", "unreadable at 0");
        same("{-}-}", "");
        same("{--", "unreadable at 0");
        same("{---}", "");
        same("{- -}-}", "unreadable at 5");
        same("-}", "unreadable at 0");
        same("{-{--}-}", "");
        same("{-{--}", "unreadable at 0");
        same("{-{-}-}", "unreadable at 0");
        same("{-{-}-}-}", "");
        same("{-{-{--}-}-}check a.", "accepted 1");
        same("{-{-{--}-}check a.", "unreadable at 0");
        same("{--}{--}check a.{--}", "accepted 1");
        same("check{--}a{-.-}.", "accepted 1");
        same("check{- a -}.", "unreadable at 12");
        same("check a.  {- {- -} ", "accepted 1; unreadable at 10");
        same("check a  {- . ", "unreadable at 9");
        same("check ( {- ", "unreadable at 8");
        same("{-\n--\n-}check a.", "accepted 1");
        same("{- -- -}check a.", "accepted 1");
        same("--{-\ncheck a.", "accepted 1");
        same("-- -}\ncheck a.", "accepted 1");
        same("check a{-x-}a.", "refused 4 at 6");
        same("che{--}ck a.", "unreadable at 0");
        same("check a:{--}=a.", "unreadable at 12");
        same("{-" + "{-".repeat(200) + "-}".repeat(200) + "-}check a.", "accepted 1");
        same("{-" + "{-".repeat(200) + "-}".repeat(199) + "-}check a.", "unreadable at 0");
        same("{-" + "-".repeat(3) + "}check a.", "accepted 1");
        same("{- { - } -}check a.", "accepted 1");
        same("{- {\n- - -}check a.", "accepted 1");
    }

    private static void nameBytes() {
        // The bytes beside those of a name are in no name, neither first nor behind.
        String beside = "@[`{/:";
        for (int i = 0; i < beside.length(); i++) {
            char c = beside.charAt(i);
            same("check " + c + "a.", "unreadable at 6");
            same("check a" + c + "a.", c == ':' ? "refused 5 at 6" : "unreadable at 7");
        }
        same("axiom A: Prop. axiom Z: Prop. axiom z: Prop. axiom _: Prop. check A. check Z. check a. check z. check _.",
                "accepted 1; accepted 1; accepted 1; accepted 1; accepted 1; accepted 1; accepted 1; accepted 1; accepted 1");
        same("axiom a0: Prop. axiom a9: Prop. axiom a': Prop. axiom a_: Prop. axiom aA: Prop. axiom aZ: Prop. axiom aa: Prop. axiom az: Prop.",
                "accepted 1; accepted 1; accepted 1; accepted 1; accepted 1; accepted 1; accepted 1; accepted 1");
        same("axiom 0: Prop.", "unreadable at 6");
        same("axiom 9a: Prop.", "unreadable at 6");
        same("axiom ': Prop.", "unreadable at 6");
        same("axiom 'a: Prop.", "unreadable at 6");
        same("axiom __: Prop. axiom _0: Prop. axiom _': Prop. axiom a'': Prop.", "accepted 1; accepted 1; accepted 1; accepted 1");
        same("axiom a\u00e4: Prop.", "unreadable at 7");
    }

    private static void nameLengths() {
        String less = FORTY.substring(1);
        String more = FORTY + "O";
        same("axiom " + less + ": Prop. check " + less + ".", "accepted 1; accepted 1");
        same("axiom " + FORTY + ": Prop. check " + FORTY + ".", "accepted 1; accepted 1");
        same("axiom " + more + ": Prop. check " + more + ".", "unreadable at 6");
        same("axiom " + "_".repeat(40) + ": Prop.", "accepted 1");
        same("axiom " + "_".repeat(41) + ": Prop.", "unreadable at 6");
        same("axiom b" + "'".repeat(39) + ": Prop.", "accepted 1");
        same("axiom b" + "9".repeat(40) + ": Prop.", "unreadable at 6");
        same("axiom b" + "0".repeat(300) + ": Prop.", "unreadable at 6");
        // Names that differ in their 40th byte alone are two.
        same("axiom " + FORTY + ": Prop. axiom " + less + "x: Prop. axiom " + FORTY.substring(0, 39) + "x: Prop. axiom "
                + FORTY.substring(0, 39) + ": Prop.", "accepted 1; accepted 1; accepted 1; accepted 1");
        // As variables, and behind rec; and where no name can stand.
        same("check fun " + FORTY + ": Prop => " + FORTY + ".", "accepted 2");
        same("check fun " + more + ": Prop => a.", "unreadable at 10");
        same("check fun (x " + more + ": Prop) => a.", "unreadable at 13");
        same("check let " + FORTY + " := a in " + FORTY + ".", "accepted 2");
        same("check let " + more + " := a in a.", "unreadable at 10");
        same("data " + FORTY + ": Prop. check rec " + FORTY + " Prop.", "accepted 0; accepted 9");
        same("check rec " + more + " Prop.", "unreadable at 10");
        same("data b: Prop | " + FORTY + ": b.", "accepted 2");
        same("data b: Prop | " + more + ": b.", "unreadable at 15");
        same("check a " + FORTY + ".", "refused 1 at 8");
        same("check a " + more + ".", "unreadable at 8");
        same(more, "unreadable at 0");
        same("check a. " + more, "accepted 1; unreadable at 9");
        same("check a: a) " + more + ".", "unreadable at 10");
        // The first byte of such a name is the fault, also when the text ends in it.
        Bench bench = new Bench();
        bench.feed("check " + more + "PQ.");
        Bench.due("cut behind 41 bytes", bench.end(47), 1);
        Bench.due("its place", bench.verdicts(), "unreadable at 6");
        bench.feed("check " + more + "PQ.");
        Bench.due("cut behind 40 bytes", bench.end(46), 1);
        Bench.due("its place", bench.verdicts(), "unreadable at 46");
        // In a remark it is none.
        same("check a. -- " + more + "\n{-" + more + "-}", "accepted 1");
    }

    private static void words() {
        String[] all = {"axiom", "def", "lemma", "data", "check", "norm", "fun", "all", "let", "in", "rec", "Prop", "Type"};
        for (String word : all) {
            same("axiom " + word + ": Prop.", "unreadable at 6");
            same("check fun " + word + ": Prop => a.", "unreadable at 10");
            String less = word.substring(0, word.length() - 1);
            String[] names = {word + "'", word + "_", word + "a", "a" + word, "_" + word, less, word.substring(1)};
            for (String name : names) {
                same("axiom " + name + ": Prop. check " + name + ".", name.equals("a") ? "refused 2 at 6; accepted 1" : "accepted 1; accepted 1");
            }
            if (!word.equals("Type")) {
                same("axiom " + word + "0: Prop. check " + word + "0.", "accepted 1; accepted 1");
            }
            String other = word.charAt(0) < 'a' ? word.toLowerCase() : word.toUpperCase();
            same("axiom " + other + ": Prop. check " + other + ".", "accepted 1; accepted 1");
        }
        same("check prop.", "refused 1 at 6");
        same("checka.", "unreadable at 0");
        same("check(a).", "accepted 1");
    }

    private static void sorts() {
        for (int i = 0; i < 99; i++) {
            Bench bench = new Bench();
            Bench.due("check Type" + i, bench.verdicts("check Type" + i + "."), "accepted 0");
            Bench.due("its line", bench.torn(), "Type" + (i + 1) + "/");
            Bench.due("norm Type" + i, bench.verdicts("norm Type" + i + "."), "accepted 1");
            Bench.due("its line", bench.torn(), "Type" + i + "/");
            Bench.due("it is less than the next one", bench.verdicts("axiom g: Type" + i + ". check g: Type" + (i + 1) + ".").substring(0, 10),
                    "accepted 1");
        }
        Bench bench = new Bench();
        Bench.due("Prop and Type", bench.verdicts("check Prop. check Type. norm Prop. norm Type."),
                "accepted 0; accepted 0; accepted 1; accepted 1");
        Bench.due("Type is Type0", bench.torn(), "Type0/Type1/Prop/Type0/");
        same("check Type99.", "refused 6 at 6");
        same("norm Type99.", "refused 6 at 5");
        String[] names = {"Type00", "Type01", "Type09", "Type100", "Type000", "Type990", "Type0a", "Type9_", "Type5'", "Type_", "Type'",
            "TypeA", "Prop0", "Prop9", "type", "type0", "Typ", "Typ0", "TType", "Type1a", "Type10a"};
        for (String name : names) {
            same("check " + name + ".", "refused 1 at 6");
            same("axiom " + name + ": Prop. check " + name + ".", "accepted 1; accepted 1");
        }
        String[] sorts = {"Prop", "Type", "Type0", "Type1", "Type9", "Type10", "Type19", "Type90", "Type99"};
        for (String sort : sorts) {
            same("axiom " + sort + ": Prop.", "unreadable at 6");
            same("check fun " + sort + ": Prop => a.", "unreadable at 10");
            same("check rec " + sort + " Prop.", "unreadable at 10");
        }
    }

    private static void signs() {
        same("check a:=a.", "unreadable at 7");
        same("check a: =a.", "unreadable at 9");
        same("check a:", "unreadable at 8");
        same("def b:=a.", "accepted 1");
        same("def b: =a.", "unreadable at 7");
        same("def b::=a.", "unreadable at 6");
        same("def b:==a.", "unreadable at 7");
        same("def b:=>a.", "unreadable at 7");
        same("check fun x:a=>x.", "accepted 3");
        same("check fun x:a= >x.", "unreadable at 13");
        same("check fun x:a=", "unreadable at 13");
        same("check fun x:a==>x.", "unreadable at 13");
        same("check fun x:a=>>x.", "unreadable at 15");
        same("check fun x:a=>=>x.", "unreadable at 15");
        same("check a->a.", "accepted 3");
        same("check a- >a.", "unreadable at 7");
        same("check a-", "unreadable at 7");
        same("check a->", "unreadable at 9");
        same("check a>a.", "unreadable at 7");
        same("check a->->a.", "unreadable at 9");
        same("check a|a.", "unreadable at 7");
        same("check a,a.", "unreadable at 7");
        same("check all x:a,a.", "accepted 3");
        same("check all x:a,,a.", "unreadable at 14");
        same("check a...", "accepted 1; unreadable at 8");
    }

    private static void manyAndNone() {
        // Any number of groups, 0 too; one name in a group, or more; any number of constructors, 0 too.
        same("axiom b: Prop.", "accepted 1");
        same("axiom b () : Prop.", "unreadable at 9");
        same("axiom b (: a) : Prop.", "unreadable at 9");
        same("axiom b (x: a): Prop.", "accepted 5");
        same("axiom b (x y: a): Prop.", "accepted 8");
        same("axiom b (x: a) (y: a): Prop.", "accepted 9");
        same("axiom b " + "(x: a)".repeat(100) + ": Prop.", "accepted 401");
        same("def b := a.", "accepted 1");
        same("def b (x: a) := x.", "accepted 3");
        same("lemma b: Prop := a.", "accepted 2");
        same("data b: Prop.", "accepted 0");
        same("data b: Prop |.", "unreadable at 14");
        same("data b: Prop | c: b.", "accepted 2");
        same("data b: Prop | c: b | d: b.", "accepted 4");
        same("data b (x: a): Prop.", "accepted 2");
        same("check fun => a.", "unreadable at 10");
        same("check fun : a => a.", "unreadable at 10");
        same("check fun () => a.", "unreadable at 11");
        same("check fun (x: a) => a.", "accepted 3");
        same("check fun x: a => a.", "accepted 3");
        same("check fun x y: a => a.", "accepted 4");
        same("check fun (x: a) (y: a) => a.", "accepted 5");
        same("check fun x: a y: a => a.", "unreadable at 16");
        same("check all , a.", "unreadable at 10");
        same("check all x: a, a.", "accepted 3");
        same("check .", "unreadable at 6");
        same("check ().", "unreadable at 7");
        same("check " + "a ".repeat(3) + ".", "refused 4 at 6");
        same("check a a.", "refused 4 at 6");
    }

    private static void depthOfBrackets() {
        same("norm ((a)).", "accepted 2");
        for (int depth = 98; depth <= 103; depth++) {
            String want = depth <= 100 ? "accepted 1" : "unreadable at 106";
            same("check " + "(".repeat(depth - 1) + "a" + ")".repeat(depth - 1) + ".", want);
            same("check f " + "(".repeat(depth - 1) + "a" + ")".repeat(depth - 1) + ".", depth <= 100 ? "accepted 9" : "unreadable at 108");
            same("axiom b: " + "(".repeat(depth - 1) + "a" + ")".repeat(depth - 1) + ".", depth <= 100 ? "accepted 2" : "unreadable at 109");
            same("def b := " + "(".repeat(depth - 1) + "a" + ")".repeat(depth - 1) + ".", depth <= 100 ? "accepted 1" : "unreadable at 109");
            same("data b: " + "(".repeat(depth - 1) + "Prop" + ")".repeat(depth - 1) + ".", depth <= 100 ? "accepted 0" : "unreadable at 108");
            same("data b: Prop | c: " + "(".repeat(depth - 1) + "b" + ")".repeat(depth - 1) + ".", depth <= 100 ? "accepted 2" : "unreadable at 118");
            same("check a: " + "(".repeat(depth - 1) + "Prop" + ")".repeat(depth - 1) + ".", depth <= 100 ? "accepted 2" : "unreadable at 109");
            same("axiom b (x: " + "(".repeat(depth - 1) + "a" + ")".repeat(depth - 1) + "): a.", depth <= 100 ? "accepted 6" : "unreadable at 112");
        }
    }

    /** A term that lies so deep. */
    private static void atDepth(int depth, String term, String want) {
        String text = "check " + "(".repeat(depth - 1) + term + ")".repeat(depth - 1) + ".";
        same(text, want);
    }

    private static void depthOfParts() {
        // Each part that is one deeper than its term: at 99 it lies 100 deep, at 100 it lies 101 deep.
        atDepth(99, "(a)", "accepted 1");
        atDepth(100, "(a)", "unreadable at 106");
        atDepth(99, "(a: Prop)", "accepted 2");
        atDepth(100, "(a: Prop)", "unreadable at 106");
        atDepth(99, "f (a) a", "accepted 11");
        atDepth(100, "f (a) a", "unreadable at 108");
        atDepth(99, "f a (a)", "accepted 11");
        atDepth(100, "f a (a)", "unreadable at 110");
        atDepth(99, "(a) -> a", "accepted 3");
        atDepth(100, "(a) -> a", "unreadable at 106");
        atDepth(99, "a -> (a)", "accepted 3");
        atDepth(100, "a -> (a)", "unreadable at 111");
        atDepth(99, "fun x: a => x", "accepted 3");
        atDepth(100, "fun x: a => x", "unreadable at 112");
        atDepth(99, "fun (x: a) => x", "accepted 3");
        atDepth(100, "fun (x: a) => x", "unreadable at 113");
        atDepth(99, "fun (x: a) (y: a) => x", "accepted 5");
        atDepth(99, "fun (x: a) (y: (a)) => x", "unreadable at 120");
        atDepth(99, "all x: a, a", "accepted 3");
        atDepth(100, "all x: a, a", "unreadable at 112");
        atDepth(99, "all (x: a), a", "accepted 3");
        atDepth(100, "all (x: a), a", "unreadable at 113");
        atDepth(99, "let x := a in x", "accepted 2");
        atDepth(100, "let x := a in x", "unreadable at 114");
        atDepth(99, "let x: Prop := a in x", "accepted 3");
        atDepth(100, "let x: Prop := a in x", "unreadable at 112");
        atDepth(99, "let x: (Prop) := a in x", "unreadable at 112");
        atDepth(99, "let x: Prop := (a) in x", "unreadable at 120");
        atDepth(100, "a", "accepted 1");
        atDepth(100, "f a a", "accepted 11");
        atDepth(100, "a -> a", "accepted 3");
        atDepth(100, "f a a -> f a a", "accepted 29");
        // Both parts of (T : U) lie one deeper.
        same("check " + "(".repeat(99) + "a" + ": Prop)".repeat(99) + ".", "accepted 100");
        same("check " + "(".repeat(100) + "a" + ": Prop)".repeat(100) + ".", "unreadable at 106");
        same("check " + "(a: ".repeat(99) + "a" + ")".repeat(99) + ".", "refused 5 at 399");
        same("check " + "(a: ".repeat(100) + "a" + ")".repeat(100) + ".", "unreadable at 403");
        same("check " + "fun x: ".repeat(99) + "a" + " => a".repeat(99) + ".", "refused 3 at 692");
        same("check " + "fun x: ".repeat(100) + "a" + " => a".repeat(100) + ".", "unreadable at 706");
        same("check " + "let x := ".repeat(99) + "a" + " in x".repeat(99) + ".", "accepted 100");
        same("check " + "let x := ".repeat(100) + "a" + " in x".repeat(100) + ".", "unreadable at 906");
    }

    private static void depthOfEnds() {
        // What ends a term lies as deep as that, at any depth.
        same("check " + "a -> ".repeat(200) + "a.", "accepted 401");
        same("check " + "fun x: a => ".repeat(200) + "a.", "accepted 401");
        same("check " + "all x: a, ".repeat(200) + "a.", "accepted 401");
        same("check " + "let x := a in ".repeat(200) + "a.", "accepted 201");
        same("check " + "(a) -> ".repeat(200) + "(a).", "accepted 401");
        atDepth(100, "a -> a -> a -> a", "accepted 7");
        atDepth(99, "fun x: a => fun y: a => all z: a, let w := a in a -> a", "accepted 10");
        atDepth(100, "a -> fun x: a => x", "unreadable at 117");
        atDepth(99, "a -> all x: a, a", "accepted 5");
        atDepth(99, "fun x: a => (a)", "accepted 3");
        atDepth(99, "fun x: a => ((a))", "unreadable at 118");
        atDepth(99, "all x: a, ((a))", "unreadable at 116");
        atDepth(99, "let x := a in ((a))", "unreadable at 120");
        atDepth(99, "a -> ((a))", "unreadable at 111");
        // A bracket that is closed is deep no more.
        same("check f (" + "(".repeat(98) + "a" + ")".repeat(98) + ") (" + "(".repeat(98) + "a" + ")".repeat(98) + ").", "accepted 11");
        same("check (" + "(".repeat(98) + "a" + ")".repeat(98) + ") -> " + "(".repeat(99) + "a" + ")".repeat(99) + ".", "accepted 3");
        same("check fun (x: " + "(".repeat(98) + "a" + ")".repeat(98) + ") (y: " + "(".repeat(98) + "a" + ")".repeat(98) + ") => "
                + "(".repeat(99) + "a" + ")".repeat(99) + ".", "accepted 5");
        same("check let x: " + "(".repeat(98) + "Prop" + ")".repeat(98) + " := " + "(".repeat(98) + "a" + ")".repeat(98) + " in "
                + "(".repeat(99) + "x" + ")".repeat(99) + ".", "accepted 3");
        // Terms that are in no other one are 1 deep each.
        same("check " + "(".repeat(99) + "a" + ")".repeat(99) + ": " + "(".repeat(99) + "Prop" + ")".repeat(99) + ".", "accepted 2");
        same("def b (x: " + "(".repeat(99) + "a" + ")".repeat(99) + ") (y: " + "(".repeat(99) + "a" + ")".repeat(99) + "): "
                + "(".repeat(99) + "a" + ")".repeat(99) + " := " + "(".repeat(99) + "x" + ")".repeat(99) + ".", "accepted 15");
    }

    private static void faultOfDepth() {
        // The first token of the term that is too deep is the fault, whatever it is.
        same("check " + "(".repeat(100) + "(", "unreadable at 106");
        same("check " + "(".repeat(100), "unreadable at 106");
        same("check " + "(".repeat(100) + "  ", "unreadable at 108");
        same("check " + "(".repeat(100) + "  a", "unreadable at 108");
        same("check " + "(".repeat(100) + "fun x: a => x", "unreadable at 106");
        same("check " + "(".repeat(100) + "let", "unreadable at 106");
        same("check " + "(".repeat(100) + "Prop", "unreadable at 106");
        same("check " + "(".repeat(100) + "rec", "unreadable at 106");
        same("check " + "(".repeat(100) + ")", "unreadable at 106");
        same("check " + "(".repeat(100) + "#", "unreadable at 106");
        same("check " + "(".repeat(100) + "{-", "unreadable at 106");
        same("check " + "(".repeat(99) + ")", "unreadable at 105");
        same("check " + "(".repeat(99), "unreadable at 105");
        same("check a. check " + "(".repeat(100) + "a", "accepted 1; unreadable at 115");
        // Names that mean nothing are no fault.
        same("check q " + "(".repeat(99) + "a" + ")".repeat(99) + ".", "refused 1 at 6");
    }

    private static void faultAtEnd() {
        String[] begun = {"axiom", "axiom b", "axiom b (", "axiom b (x", "axiom b (x y", "axiom b (x:", "axiom b (x: a", "axiom b (x: a)", "axiom b:",
            "axiom b: a", "def", "def b", "def b (x: a)", "def b:", "def b: a", "def b: a :=", "def b: a := a", "def b :=", "def b := a",
            "lemma", "lemma b", "lemma b: a", "lemma b: a :=", "lemma b: a := a", "data", "data b", "data b:", "data b: Prop", "data b: Prop |",
            "data b: Prop | c", "data b: Prop | c:", "data b: Prop | c: b", "check", "check a", "check a:", "check a: a", "norm", "norm a",
            "norm fun", "norm fun x", "norm fun x:", "norm fun x: a", "norm fun x: a =>", "norm fun (", "norm fun (x", "norm fun (x: a",
            "norm fun (x: a)", "norm fun (x: a) (", "norm all", "norm all x: a", "norm all x: a,", "norm let", "norm let x", "norm let x:",
            "norm let x: a", "norm let x: a :=", "norm let x :=", "norm let x := a", "norm let x := a in", "norm a ->", "norm rec", "norm rec a",
            "norm rec a Prop", "norm (", "norm (a", "norm (a:", "norm (a: a", "norm (a: a)", "norm (a)", "norm q", "axiom a: q"};
        for (String text : begun) {
            same(text, "unreadable at " + text.length());
            same("check a." + text + " ", "accepted 1; unreadable at " + (text.length() + 9));
            same(text + "\n-- x", "unreadable at " + (text.length() + 5));
            same(text + "{--}\t", "unreadable at " + (text.length() + 5));
        }
        same("check a.", "accepted 1");
        same("check a. ", "accepted 1");
    }

    private static void faultOfCuts() {
        // Each beginning of a text: as many verdicts as declarations end in it, and a fault unless it ends behind one.
        String text = "axiom b: Prop -> Prop. def c (x y: a): a := let z: a := x in (z: a). check b (a: Prop): Prop.\n"
                + "data D: Type12 | e: (a -> D) -> D. norm fun x: a => rec D Prop. -- x\n{- y -} lemma l: all P: Prop, P -> P := fun (P: Prop) (h: P) => h.";
        Bench whole = new Bench();
        whole.end("axiom a: Prop.");
        int all = whole.end(text);
        Bench.due("all is accepted", all, 6);
        for (int n = 0; n <= text.length(); n++) {
            Bench bench = new Bench();
            bench.end("axiom a: Prop.");
            bench.feed(text);
            int ends = 0;
            for (int i = 0; i < n; i++) {
                ends += text.charAt(i) == '.' ? 1 : 0;
            }
            String begun = text.substring(text.lastIndexOf('.', n - 1) + 1, n);
            boolean inRemark = begun.lastIndexOf("{-") > begun.lastIndexOf("-}");
            String tokens = begun.replaceAll("--.*", "").replaceAll("\\{-.*-\\}", "").trim();
            boolean fault = inRemark || !tokens.isEmpty();
            Bench.due("verdicts of the first " + n, bench.end(n), ends + (fault ? 1 : 0));
            if (fault) {
                // A sign that is cut is another one or none, a word that is cut a name; all other faults are the end.
                String lasts = text.substring(n - 1, Math.min(n + 1, text.length()));
                boolean cutSign = lasts.equals("->") || lasts.equals("=>") || lasts.equals(":=") || lasts.equals("--") || lasts.equals("{-");
                boolean cutWord = tokens.matches("[a-z]+") && !tokens.matches("axiom|def|lemma|data|check|norm");
                boolean cutSort = tokens.matches(".*rec D (P|Pr|Pro)");
                int place = inRemark ? text.lastIndexOf("{-", n) : cutSign ? n - 1 : cutWord ? n - tokens.length()
                        : cutSort ? text.lastIndexOf("P", n) : n;
                Bench.due("the fault of the first " + n, bench.verdict(ends), "unreadable at " + place);
            }
            for (int k = 0; k < ends; k++) {
                Bench.due("verdict " + k + " of the first " + n, bench.verdict(k), whole.verdict(k));
            }
        }
    }

    private static void checkedBeforeFault() {
        Bench bench = new Bench();
        Bench.due("what is before the fault", bench.verdicts("axiom a: Prop. norm a. norm q. axiom b: a. axiom c: ) axiom d: a."),
                "accepted 1; accepted 2; refused 1 at 28; accepted 2; unreadable at 52");
        Bench.due("is kept", bench.globals(), 2);
        Bench.due("and printed", bench.torn(), "a/");
        Bench.due("a fault at once", bench.verdicts(") axiom d: a."), "unreadable at 0");
        Bench.due("nothing behind it is looked at", bench.find("d"), -1);
        // Within the declaration that has the fault no other reason is met.
        Bench.due("names before the fault", bench.verdicts("axiom a: q -> )"), "unreadable at 14");
        Bench.due("names behind a fault mean what they did", bench.verdicts("check a. check b. data D: Prop | e: D | f: D D"),
                "accepted 1; accepted 1; unreadable at 46");
        Bench.due("D did not come", bench.verdicts("check D. check e. check fun x: a => ("), "refused 1 at 6; refused 1 at 15; unreadable at 37");
        Bench.due("nor did x", bench.verdicts("check x. axiom D: a. axiom x: a."), "refused 1 at 6; accepted 2; accepted 2");
    }
}
