/** Promises 1 to 8: a new object, feed, end, fuel, verdict, paper, printed, tear. */
public final class FaceTest {
    public static void main(String[] args) {
        newObject();
        feed();
        end();
        fuel();
        verdict();
        paper();
        Bench.close("FaceTest");
    }

    private static void newObject() {
        ProofDesk desk = new ProofDesk();
        Bench.due("NONE", ProofDesk.NONE, -1);
        Bench.due("new: globals()", desk.globals(), 0);
        Bench.due("new: verdict(0, 0)", desk.verdict(0, 0), -1);
        Bench.due("new: end(1)", desk.end(1), -1);
        Bench.due("new: find(1)", desk.find(1), -1);
        Bench.due("new: paper()", desk.paper(), 0);
        Bench.due("new: printed(0)", desk.printed(0), -1);
        Bench.due("new: tear()", desk.tear(), 0);
        Bench.due("new: fuel(1)", desk.fuel(1), 5000);
        Bench.due("new: end(0)", desk.end(0), 0);
        Bench.due("new: forget(0)", desk.forget(0), 0);
    }

    private static void feed() {
        ProofDesk desk = new ProofDesk();
        Bench.due("feed", desk.feed(0x6e6f726d, 0x2050726f, 0x702e6368, 0x65636b20, 0x50726f70), 20);
        Bench.due("feed again", desk.feed(0x2e202020, 0x20202020, 0x20202020, 0x20202020, 0x2020207f), 40);
        Bench.due("end of what was fed", desk.end(39), 2);
        Bench.due("its paper", desk.paper(), 11);
        Bench.due("feed behind end", desk.feed(-1, -1, -1, -1, -1), 20);
        Bench.due("a high byte is no token", desk.end(1), 1);
        Bench.due("so it is unreadable", desk.verdict(0, 0), 3);
    }

    private static void end() {
        Bench bench = new Bench();
        Bench.due("one declaration", bench.end("axiom a: Prop."), 1);
        Bench.due("all bytes are gone", bench.end(1), -1);
        int n = bench.feed("axiom b: Prop. axiom c: Prop.");
        Bench.due("end(-1)", bench.end(-1), -1);
        Bench.due("end beyond the bytes", bench.end(41), -1);
        Bench.due("the verdict before stays", bench.verdict(0), "accepted 1");
        Bench.due("end with two", bench.end(n), 2);
        Bench.due("only the first n bytes", bench.globals(), 3);
        bench.feed("axiom d: Prop. axiom e: Prop.");
        Bench.due("a text is cut", bench.end(20), 2);
        Bench.due("its fault is its end", bench.verdict(1), "unreadable at 20");
        Bench.due("what was cut is gone", bench.find(1), -1);
        bench.feed("check abc. -- abc");
        Bench.due("a name is cut", bench.end(7), 1);
        Bench.due("the fault is where it is cut", bench.verdict(0), "unreadable at 7");
        bench.feed("check a. -- abc");
        Bench.due("a remark is cut", bench.end(13), 1);
        bench.feed("check a := b.");
        Bench.due("a sign is cut", bench.end(9), 1);
        Bench.due("so it is another one", bench.verdict(0), "unreadable at 9");
        bench.feed("norm Type12. {--}");
        Bench.due("a sort is cut", bench.end(10), 1);
        bench.feed("check a. {--}   ");
        Bench.due("the end of a remark is cut", bench.end(12), 2);
        Bench.due("an empty text", bench.end(0), 0);
        Bench.due("has no verdicts", bench.verdict(0, 0), -1);
        Bench.due("blanks alone", bench.end(" \t\r\n -- nothing"), 0);
    }

    private static void fuel() {
        ProofDesk desk = new ProofDesk();
        Bench.due("fuel(0)", desk.fuel(0), -1);
        Bench.due("fuel(10001)", desk.fuel(10001), -1);
        Bench.due("fuel(-5)", desk.fuel(-5), -1);
        Bench.due("fuel(10000)", desk.fuel(10000), 5000);
        Bench.due("fuel(1)", desk.fuel(1), 10000);
        Bench.due("fuel(7)", desk.fuel(7), 1);
        Bench bench = new Bench();
        bench.fuel(12);
        Bench.due("cost 13, fuel 12", bench.verdicts("def id (A: Type) (x: A): A := x."), "out");
        Bench.due("place of out", bench.verdict(0, 2), 0);
        Bench.due("nothing is kept", bench.globals(), 0);
        bench.fuel(13);
        Bench.due("cost 13, fuel 13", bench.verdicts("def id (A: Type) (x: A): A := x."), "accepted 13");
        bench.fuel(1);
        Bench.due("a reason before the fuel is spent", bench.verdicts("axiom a: Prop. norm a a."), "accepted 1; refused 4 at 20");
        Bench.due("each declaration has the fuel", bench.verdicts("check a. check a. norm a."), "accepted 1; accepted 1; out");
        Bench.due("a reason behind it is not met", bench.verdicts("check (fun x: Prop => x) a a."), "out");
    }

    private static void verdict() {
        Bench bench = new Bench();
        Bench.due("verdicts", bench.verdicts("axiom a: Prop. norm b. axiom"), "accepted 1; refused 1 at 20; unreadable at 28");
        Bench.due("verdict(-1, 0)", bench.verdict(-1, 0), -1);
        Bench.due("verdict(3, 0)", bench.verdict(3, 0), -1);
        Bench.due("verdict(0, -1)", bench.verdict(0, -1), -1);
        Bench.due("verdict(0, 4)", bench.verdict(0, 4), -1);
        Bench.due("reason of accepted", bench.verdict(0, 1), 0);
        Bench.due("place of accepted", bench.verdict(0, 2), 0);
        Bench.due("cost of accepted", bench.verdict(0, 3), 1);
        Bench.due("cost of refused", bench.verdict(1, 3), 0);
        Bench.due("reason of unreadable", bench.verdict(2, 1), 0);
        Bench.due("cost of unreadable", bench.verdict(2, 3), 0);
        Bench.due("verdicts of the latest end alone", bench.end("norm a."), 1);
        Bench.due("those before are gone", bench.verdict(1, 0), -1);
    }

    private static void paper() {
        Bench bench = new Bench();
        bench.end("norm Type. check Prop. check Prop: Type. axiom a: Prop.");
        Bench.due("paper()", bench.paper(), 12);
        Bench.due("printed(0)", bench.printed(0), 'T');
        Bench.due("printed(5)", bench.printed(5), 10);
        Bench.due("printed(11)", bench.printed(11), 10);
        Bench.due("printed(12)", bench.printed(12), -1);
        Bench.due("printed(-1)", bench.printed(-1), -1);
        Bench.due("tear()", bench.tear(), 12);
        Bench.due("paper() then", bench.paper(), 0);
        Bench.due("printed(0) then", bench.printed(0), -1);
        Bench.due("tear() again", bench.tear(), 0);
        bench.end("norm a.");
        Bench.due("a new line", bench.torn(), "a/");
    }
}
