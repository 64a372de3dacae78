import java.util.function.IntSupplier;

/** The bounds of each call's arguments (promises 1 to 14): at them, one below, one above, and what NONE leaves alone. */
public final class CallBoundsTest {
    private static final int LEAST = Integer.MIN_VALUE;
    private static final int MOST = Integer.MAX_VALUE;
    private static final int BLANKS = 0x20202020;

    public static void main(String[] args) {
        newObject();
        feedOrder();
        feedCount();
        feedFull();
        endBounds();
        endTakesAll();
        fuelBounds();
        verdictBounds();
        verdictsOfTheLatest();
        printedBounds();
        tearBounds();
        globalsCount();
        findBounds();
        findNames();
        aboutBounds();
        leansBounds();
        showBounds();
        forgetBounds();
        forgetWhereOthersWere();
        forgetLeaves();
        Bench.close("CallBoundsTest");
    }

    /** A call that answers NONE and changes nothing. */
    private static void refuses(Bench bench, String what, IntSupplier call) {
        String before = bench.state();
        Bench.due(what, call.getAsInt(), -1);
        Bench.due(what + " changes nothing", bench.state(), before);
    }

    /** Two axioms, a family with two constructors, a def, a family without constructors, and a line on the paper. */
    private static Bench filled() {
        Bench bench = new Bench();
        Bench.due("filled", bench.verdicts("axiom A: Type. axiom a: A. data nat: Type | z: nat | s: nat -> nat. def one := s z."
                + " data no: Prop. norm q. norm one."), "accepted 1; accepted 2; accepted 6; accepted 5; accepted 0; refused 1 at 104; accepted 6");
        return bench;
    }

    private static void newObject() {
        Bench bench = new Bench();
        Bench.due("all of a new object", bench.state(), "|||5000|0||0|0|");
        Bench.due("new: verdict(0, 0)", bench.verdict(0, 0), -1);
        Bench.due("new: paper()", bench.paper(), 0);
        Bench.due("new: printed(0)", bench.printed(0), -1);
        Bench.due("new: globals()", bench.globals(), 0);
        Bench.due("new: about(0, 0)", bench.about(0, 0), -1);
        Bench.due("new: leans(0, 0)", bench.leans(0, 0), false);
        Bench.due("new: tear()", bench.tear(), 0);
        Bench.due("new: show(0)", bench.show(0), -1);
        refuses(bench, "new: end(1)", () -> bench.end(1));
        refuses(bench, "new: find(1)", () -> bench.find(1));
        refuses(bench, "new: find(0)", () -> bench.find(0));
        refuses(bench, "new: forget(1)", () -> bench.forget(1));
        Bench.due("new: forget(0)", bench.forget(0), 0);
        Bench.due("new: end(0)", bench.end(0), 0);
        Bench.due("new: fuel(5000)", bench.fuel(5000), 5000);
        Bench.due("all of it is still as new", bench.state(), "|||5000|0||0|0|");
        // The type of the names costs 5 to look at, and 5 for each name; Prop costs nothing, p 1.
        Bench rich = new Bench();
        Bench.due("its fuel is 5000", rich.verdicts("axiom p: Prop. check fun " + "x ".repeat(999) + ": p -> p -> p => Prop."
                + " check fun " + "x ".repeat(999) + ": p -> p -> p => p."), "accepted 1; accepted 5000; out");
    }

    private static void feedOrder() {
        Bench bench = new Bench();
        bench.end("axiom abcdefghijklmnopqrst: Prop. axiom abcdefghijklmnopqrs: Prop. axiom abcde: Prop. axiom a: Prop.");
        int[] name = {0x61626364, 0x65666768, 0x696a6b6c, 0x6d6e6f70, 0x71727374};
        int[] lengths = {20, 19, 5, 1};
        for (int g = 0; g < lengths.length; g++) {
            Bench.due("feed", bench.feed(name[0], name[1], name[2], name[3], name[4]), 20);
            Bench.due("the highest byte of a is the first", bench.find(lengths[g]), g);
        }
        bench.feed(0x2d2d2061, 0x62000000, -1, 0x7f80ff00, 0x0a636865);
        Bench.due("any byte can be fed", bench.feed(0x636b2061, 0x62636465, 0x2e800000, LEAST, MOST), 40);
        Bench.due("and stand in a remark", bench.end(29), 1);
        Bench.due("whose end is byte 10", bench.verdict(0), "accepted 1");
        bench.feed(0xff000000, 0, 0, 0, 0);
        Bench.due("a byte 255 is no token", bench.end(1), 1);
        Bench.due("its place", bench.verdict(0), "unreadable at 0");
        bench.feed(0x20202080, 0, 0, 0, 0);
        Bench.due("a byte 128 is no token", bench.end(4), 1);
        Bench.due("its place", bench.verdict(0), "unreadable at 3");
    }

    private static void feedCount() {
        Bench bench = new Bench();
        for (int i = 1; i <= 500; i++) {
            Bench.due("feed " + i, bench.feed(BLANKS, BLANKS, BLANKS, BLANKS, BLANKS), 20 * i);
        }
        Bench.due("end of all", bench.end(10000), 0);
        Bench.due("then from 20 on", bench.feed(0, 0, 0, 0, 0), 20);
        Bench.due("a find that is none for it", bench.find(21), -1);
        Bench.due("lets it count on", bench.feed(0, 0, 0, 0, 0), 40);
        Bench.due("a find that finds none", bench.find(40), -1);
        Bench.due("lets it begin again", bench.feed(0, 0, 0, 0, 0), 20);
    }

    /** 16400 bytes are more than 512 calls can feed; a desk that counts them right does so behind those, too. */
    private static void feedFull() {
        ProofDesk desk = new ProofDesk();
        for (int i = 1; i <= 820; i++) {
            Bench.due("feed " + i, desk.feed(BLANKS, BLANKS, BLANKS, BLANKS, BLANKS), 20 * i);
        }
        Bench.due("feed beyond 16400", desk.feed(0, 0, 0, 0, 0), -1);
        Bench.due("and once more", desk.feed(-1, -1, -1, -1, -1), -1);
        Bench.due("end(16401)", desk.end(16401), -1);
        Bench.due("end(16400)", desk.end(16400), -1);
        Bench.due("end(16385)", desk.end(16385), -1);
        Bench.due("end(16384), of blanks still", desk.end(16384), 0);
        Bench.due("feed then", desk.feed(0, 0, 0, 0, 0), 20);
        desk = new ProofDesk();
        for (int i = 1; i <= 820; i++) {
            desk.feed(BLANKS, BLANKS, BLANKS, BLANKS, i == 820 ? 0x2020202e : BLANKS);
        }
        Bench.due("find(16401)", desk.find(16401), -1);
        Bench.due("find(16400)", desk.find(16400), -1);
        Bench.due("find(1), since all bytes are gone", desk.find(1), -1);
        Bench.due("feed then", desk.feed(0, 0, 0, 0, 0), 20);
        desk = new ProofDesk();
        for (int i = 1; i <= 820; i++) {
            desk.feed(BLANKS, i == 820 ? 0x2020202e : BLANKS, BLANKS, BLANKS, BLANKS);
        }
        Bench.due("end(16383)", desk.end(16383), 0);
        for (int i = 1; i <= 820; i++) {
            desk.feed(BLANKS, i == 820 ? 0x2020202e : BLANKS, BLANKS, BLANKS, BLANKS);
        }
        // Byte 16387 is a sign: the text that would have it is too long.
        Bench.due("end(16384)", desk.end(16384), 0);
        for (int i = 1; i <= 820; i++) {
            desk.feed(i == 820 ? 0x2020202e : BLANKS, BLANKS, BLANKS, BLANKS, BLANKS);
        }
        Bench.due("end(16384) with a sign as the last byte", desk.end(16384), 1);
        Bench.due("its place", desk.verdict(0, 2), 16383);
    }

    private static void endBounds() {
        Bench bench = filled();
        bench.feed("axiom b: A. norm b.");
        int[] beyond = {-1, LEAST, 21, 40, 16384, 16385, MOST};
        for (int n : beyond) {
            refuses(bench, "end(" + n + ") with 20 bytes", () -> bench.end(n));
        }
        Bench.due("end(20)", new Bench(bench).end(20), 2);
        Bench.due("end(19)", new Bench(bench).end(19), 2);
        Bench.due("end(18)", new Bench(bench).end(18), 2);
        Bench cut = new Bench(bench);
        cut.end(18);
        Bench.due("the last one is cut", cut.verdicts(), "accepted 2; unreadable at 18");
        Bench.due("end(11)", new Bench(bench).end(11), 1);
        Bench.due("end(1)", new Bench(bench).end(1), 1);
        Bench.due("end(0)", new Bench(bench).end(0), 0);
        Bench empty = filled();
        refuses(empty, "end(1) with no bytes", () -> empty.end(1));
    }

    private static void endTakesAll() {
        Bench bench = filled();
        bench.feed("check a. check z.");
        Bench.due("the first n bytes", bench.end(8), 1);
        Bench.due("alone", bench.verdicts(), "accepted 1");
        refuses(bench, "then all are gone", () -> bench.end(1));
        refuses(bench, "for find, too", () -> bench.find(1));
        Bench.due("and feed begins again", bench.feed(BLANKS, BLANKS, BLANKS, BLANKS, BLANKS), 20);
        Bench.due("end(0) has no verdicts", bench.end(0), 0);
        Bench.due("in place of those before", bench.verdicts(), "");
        Bench.due("and takes all bytes", bench.end(1), -1);
        Bench.due("what was accepted stays", bench.globals(), 7);
    }

    private static void fuelBounds() {
        Bench bench = filled();
        int[] beyond = {0, -1, LEAST, 10001, MOST};
        for (int n : beyond) {
            refuses(bench, "fuel(" + n + ")", () -> bench.fuel(n));
        }
        Bench.due("fuel(10000)", bench.fuel(10000), 5000);
        refuses(bench, "fuel(10001)", () -> bench.fuel(10001));
        Bench.due("fuel(9999)", bench.fuel(9999), 10000);
        Bench.due("fuel(2)", bench.fuel(2), 9999);
        Bench.due("fuel(1)", bench.fuel(1), 2);
        refuses(bench, "fuel(0)", () -> bench.fuel(0));
        Bench.due("fuel(1) again", bench.fuel(1), 1);
        Bench.due("from now on", bench.verdicts("check a. norm a. check a."), "accepted 1; out; accepted 1");
        Bench.due("fuel(2)", bench.fuel(2), 1);
        Bench.due("the verdicts before stay", bench.verdicts(), "accepted 1; out; accepted 1");
        Bench.due("and from now on", bench.verdicts("norm a. check a: A."), "accepted 2; out");
        Bench.due("fuel(3)", bench.fuel(3), 2);
        Bench.due("and from now on", bench.verdicts("check a: A."), "accepted 3");
    }

    private static void verdictBounds() {
        Bench bench = filled();
        int[] none = {-1, LEAST, 7, 8, MOST};
        for (int k : none) {
            for (int what = 0; what < 4; what++) {
                Bench.due("verdict(" + k + ", " + what + ")", bench.verdict(k, what), -1);
            }
        }
        int[] nothing = {-1, LEAST, 4, 5, MOST};
        for (int what : nothing) {
            for (int k = -1; k < 8; k++) {
                Bench.due("verdict(" + k + ", " + what + ")", bench.verdict(k, what), -1);
            }
        }
        bench.fuel(1);
        bench.end("axiom b: Prop. norm b b. norm b. axiom b: Prop. check b. (");
        int[][] want = {{0, 0, 0, 1}, {1, 4, 20, 0}, {2, 0, 0, 0}, {1, 2, 39, 0}, {0, 0, 0, 1}, {3, 0, 57, 0}};
        for (int k = 0; k < want.length; k++) {
            for (int what = 0; what < 4; what++) {
                Bench.due("verdict(" + k + ", " + what + ")", bench.verdict(k, what), want[k][what]);
            }
        }
        Bench.due("verdict(6, 0)", bench.verdict(6, 0), -1);
        // A refused place can be 0, and an accepted cost.
        Bench.due("a place 0 and a cost 0", bench.verdicts("check Prop. data c: Prop."), "accepted 0; accepted 0");
        Bench.due("unreadable at 0", bench.verdicts("."), "unreadable at 0");
    }

    private static void verdictsOfTheLatest() {
        Bench bench = filled();
        Bench.due("one", bench.verdicts("check a."), "accepted 1");
        bench.feed("check z.");
        Bench.due("end that is refused", bench.end(21), -1);
        Bench.due("leaves the verdicts", bench.verdicts(), "accepted 1");
        bench.find(8);
        bench.tear();
        bench.show(0);
        bench.forget(3);
        bench.forget(2);
        bench.fuel(1);
        Bench.due("other calls, too", bench.verdicts(), "accepted 1");
        Bench.due("none", bench.end(0), 0);
        Bench.due("verdict(0, 0)", bench.verdict(0, 0), -1);
        // 500 blanks and signs: as many verdicts as declarations, and one for the fault.
        Bench.due("many", bench.verdicts("check A. ".repeat(40) + "check A").length(), 40 * 12 + "unreadable at 367".length());
    }

    private static void printedBounds() {
        Bench bench = filled();
        Bench.due("paper()", bench.paper(), 4);
        int[] none = {-1, LEAST, 4, 5, 32767, 32768, MOST};
        for (int i : none) {
            Bench.due("printed(" + i + ")", bench.printed(i), -1);
        }
        int[] line = {'s', ' ', 'z', 10};
        for (int i = 0; i < 4; i++) {
            Bench.due("printed(" + i + ")", bench.printed(i), line[i]);
        }
        bench.end("norm a.");
        Bench.due("a line more", bench.read(), "s z/a/");
        Bench.due("printed(5)", bench.printed(5), 10);
        Bench.due("printed(6)", bench.printed(6), -1);
        bench.end("norm q. check a: A. axiom t: A. norm a a.");
        Bench.due("what is refused or no question prints nothing", bench.read(), "s z/a/");
        bench.fuel(1);
        bench.end("norm a.");
        Bench.due("nor what is out", bench.read(), "s z/a/");
        bench.end("check a. (");
        Bench.due("nor what is unreadable", bench.read(), "s z/a/A/");
    }

    private static void tearBounds() {
        Bench bench = filled();
        Bench.due("tear()", bench.tear(), 4);
        Bench.due("paper()", bench.paper(), 0);
        Bench.due("printed(0)", bench.printed(0), -1);
        Bench.due("printed(3)", bench.printed(3), -1);
        Bench.due("tear() of an empty paper", bench.tear(), 0);
        bench.end("norm a.");
        Bench.due("a shorter one", bench.read(), "a/");
        Bench.due("printed(2)", bench.printed(2), -1);
        Bench.due("printed(3)", bench.printed(3), -1);
        Bench.due("tear() of it", bench.tear(), 2);
    }

    private static void globalsCount() {
        Bench bench = new Bench();
        String[] texts = {"", "axiom A: Type.", "check A. norm A. check A: Type.", "axiom B: q.", "axiom A: Type.", "axiom B: Type99.",
            "data D: Prop.", "data E: Prop | e: E | f: E -> E.", "data F: Prop | g: F | h: A.", "def d := A.", "lemma l: Type := A.",
            "lemma m: A := A.", "axiom a: A. axiom b: A. axiom", "data G: Prop | "};
        int[] want = {0, 1, 1, 1, 1, 1, 2, 5, 5, 6, 7, 7, 9, 9};
        for (int i = 0; i < texts.length; i++) {
            bench.end(texts[i]);
            Bench.due("globals() behind " + texts[i], bench.globals(), want[i]);
        }
        String[] order = {"A", "D", "E", "e", "f", "d", "l", "a", "b"};
        for (int g = 0; g < order.length; g++) {
            Bench.due("the number of " + order[g], bench.find(order[g]), g);
        }
        bench.fuel(1);
        bench.end("axiom c: A -> A.");
        Bench.due("what is out is none", bench.globals(), 9);
    }

    private static void findBounds() {
        Bench bench = filled();
        bench.feed("one");
        int[] beyond = {0, -1, LEAST, 21, 22, 40, MOST};
        for (int n : beyond) {
            refuses(bench, "find(" + n + ") with 20 bytes", () -> bench.find(n));
        }
        Bench.due("find(3)", new Bench(bench).find(3), 5);
        Bench.due("find(2)", new Bench(bench).find(2), -1);
        Bench.due("find(4)", new Bench(bench).find(4), -1);
        Bench.due("find(20)", new Bench(bench).find(20), -1);
        int[] within = {1, 2, 3, 4, 20};
        for (int n : within) {
            Bench other = new Bench(bench);
            other.find(n);
            Bench.due("behind find(" + n + ") all bytes are gone", other.end(1), -1);
            Bench.due("and feed begins again", other.feed(0, 0, 0, 0, 0), 20);
            Bench.due("and all else is as it was", other.verdicts() + other.read() + other.globals(),
                    bench.verdicts() + bench.read() + bench.globals());
        }
        bench.find(3);
        refuses(bench, "find(1) with no bytes", () -> bench.find(1));
    }

    private static void findNames() {
        String forty = "abcdefghijklmnopqrstuvwxyzABCDEFGHIJKLMN";
        Bench bench = filled();
        bench.end("axiom " + forty + ": A. axiom " + forty.substring(1) + ": A.");
        Bench.due("40 bytes", bench.find(forty), 7);
        Bench.due("39 bytes", bench.find(forty.substring(1)), 8);
        Bench.due("39 others", bench.find(forty.substring(0, 39)), -1);
        Bench.due("41 bytes", bench.find(forty + "O"), -1);
        String[] nothing = {"q", "x", "M", "axiom", "Prop", "Type", "Type0", "rec", "A ", " A", "(A)", "1", ".", "oneone", "Z", "\0", "a\0"};
        for (String name : nothing) {
            Bench.due("find " + name, bench.find(name), -1);
        }
        bench.end("axiom x: A. axiom M: A.");
        Bench.due("x", bench.find("x"), 9);
        Bench.due("M", bench.find("M"), 10);
        bench.forget(9);
        Bench.due("x no more", bench.find("x"), -1);
        Bench.due("M no more", bench.find("M"), -1);
        Bench.due("A still", bench.find("A"), 0);
    }

    private static void aboutBounds() {
        Bench bench = filled();
        int[] none = {-1, LEAST, 7, 8, 1000, MOST};
        for (int g : none) {
            for (int what = 0; what < 6; what++) {
                Bench.due("about(" + g + ", " + what + ")", bench.about(g, what), -1);
            }
        }
        int[] nothing = {-1, LEAST, 6, 7, MOST};
        for (int what : nothing) {
            for (int g = -1; g < 8; g++) {
                Bench.due("about(" + g + ", " + what + ")", bench.about(g, what), -1);
            }
        }
        int[][] want = {{0, 1, 0, 0, 0, 0}, {0, 1, 0, 0, 0, 0}, {3, 1, 0, 0, 2, 1}, {4, 1, 0, 0, 2, 0}, {4, 3, 0, 1, 2, 0},
            {1, 1, 0, 0, 0, 0}, {3, 1, 0, 0, 0, 1}};
        for (int g = 0; g < want.length; g++) {
            for (int what = 0; what < 6; what++) {
                Bench.due("about(" + g + ", " + what + ")", bench.about(g, what), want[g][what]);
            }
        }
        bench.forget(6);
        Bench.due("about what was forgotten", bench.about(6, 0), -1);
        Bench.due("about the last one", bench.about(5, 0), 1);
        bench.end("lemma l (x y: A): A := x.");
        int[] lemma = {2, 5, 0, 0, 0, 0};
        for (int what = 0; what < 6; what++) {
            Bench.due("about a lemma, " + what, bench.about(6, what), lemma[what]);
        }
    }

    private static void leansBounds() {
        Bench bench = filled();
        int[] none = {-1, LEAST, 7, 8, MOST};
        for (int g : none) {
            for (int h = 0; h < 7; h++) {
                Bench.due("leans(" + g + ", " + h + ")", bench.leans(g, h), false);
                Bench.due("leans(" + h + ", " + g + ")", bench.leans(h, g), false);
            }
            Bench.due("leans(" + g + ", " + g + ")", bench.leans(g, g), false);
        }
        String[] want = {".......", "+......", "..+....", "..+....", "..+....", "..+++..", "......."};
        for (int g = 0; g < 7; g++) {
            StringBuilder got = new StringBuilder();
            for (int h = 0; h < 7; h++) {
                got.append(bench.leans(g, h) ? '+' : '.');
            }
            Bench.due("leans(" + g + ", ..)", got.toString(), want[g]);
        }
        bench.forget(5);
        Bench.due("what was forgotten leans on nothing", bench.leans(5, 2), false);
        bench.end("axiom k: A.");
        Bench.due("nor does what came in its place", bench.leans(5, 2), false);
        Bench.due("but on its own", bench.leans(5, 0), true);
    }

    private static void showBounds() {
        Bench bench = filled();
        int[] none = {-1, LEAST, 7, 8, 1000, MOST};
        for (int g : none) {
            refuses(bench, "show(" + g + ")", () -> bench.show(g));
        }
        bench.tear();
        String[] lines = {"Type0/", "A/", "Type0/", "nat/", "nat -> nat/", "nat/", "Prop/"};
        for (int g = 0; g < 7; g++) {
            Bench.due("show(" + g + ")", bench.show(g), lines[g].length());
            Bench.due("its line", bench.torn(), lines[g]);
        }
        bench.forget(6);
        refuses(bench, "show(6) when there are 6", () -> bench.show(6));
        Bench.due("show(5)", bench.show(5), 4);
        Bench.due("show(5) again", bench.show(5), 4);
        Bench.due("two lines", bench.torn(), "nat/nat/");
    }

    private static void forgetBounds() {
        Bench bench = filled();
        bench.feed("norm one.");
        int[] beyond = {-1, LEAST, 8, 9, 1001, MOST};
        for (int g : beyond) {
            refuses(bench, "forget(" + g + ") of 7", () -> bench.forget(g));
        }
        refuses(bench, "forget(3), the first constructor", () -> bench.forget(3));
        refuses(bench, "forget(4), the last constructor", () -> bench.forget(4));
        String before = bench.state();
        Bench.due("forget(7) of 7", bench.forget(7), 0);
        Bench.due("none went", bench.state(), before);
        int[] went = {7, 6, 5, -1, -1, 2, 1, 0};
        for (int g = 0; g < went.length; g++) {
            Bench other = new Bench(bench);
            Bench.due("forget(" + g + ")", other.forget(g), went[g]);
            Bench.due("how many are left", other.globals(), went[g] == -1 ? 7 : g);
        }
        Bench.due("forget(5), behind the last constructor", bench.forget(5), 2);
        refuses(bench, "forget(4), the last of all", () -> bench.forget(4));
        refuses(bench, "forget(6) of 5", () -> bench.forget(6));
        Bench.due("forget(2), the family with its constructors", bench.forget(2), 3);
        Bench.due("forget(0)", bench.forget(0), 2);
        Bench.due("forget(0) of none", bench.forget(0), 0);
        refuses(bench, "forget(1) of none", () -> bench.forget(1));
    }

    private static void forgetWhereOthersWere() {
        // What stands at a number now counts, not what stood there before.
        Bench bench = filled();
        bench.forget(2);
        bench.end("axiom b: A.");
        Bench.due("forget(3) of 3, where a constructor was", bench.forget(3), 0);
        refuses(bench, "show(3), where a constructor was", () -> bench.show(3));
        Bench.due("forget(2) of 3", bench.forget(2), 1);
        bench.end("axiom b: A. axiom c: A.");
        Bench.due("forget(3) of 4, where a constructor was", bench.forget(3), 1);
        bench.end("data D: Prop | d: D.");
        refuses(bench, "forget(4), a new constructor", () -> bench.forget(4));
        Bench.due("forget(3), its family", bench.forget(3), 2);
        Bench.due("globals()", bench.globals(), 3);
    }

    private static void forgetLeaves() {
        Bench bench = filled();
        bench.fuel(77);
        bench.feed("check A.");
        Bench.due("forget(2)", bench.forget(2), 5);
        Bench.due("the verdicts stay", bench.verdicts(), filled().verdicts());
        Bench.due("the paper stays", bench.read(), "s z/");
        Bench.due("the bytes stay", bench.end(8), 1);
        Bench.due("what was before stays", bench.verdicts(), "accepted 1");
        Bench.due("the fuel stays", bench.fuel(78), 77);
        Bench.due("names that went mean nothing", bench.verdicts("check nat. check z. check s. check one. check rec no Prop."),
                "refused 1 at 6; refused 1 at 17; refused 1 at 26; refused 1 at 35; refused 12 at 50");
        Bench.due("and can be declared", bench.verdicts("axiom z: A. axiom nat: A. data s: Prop | one: s. axiom no: s."),
                "accepted 2; accepted 2; accepted 2; accepted 2");
        Bench.due("their numbers", bench.find("z") + " " + bench.find("nat") + " " + bench.find("s") + " " + bench.find("one")
                + " " + bench.find("no"), "2 3 4 5 6");
        Bench.due("a is as it was", bench.find("a"), 1);
    }
}
