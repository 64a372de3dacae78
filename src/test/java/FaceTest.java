/** Promises 1 to 8: a new object, feed, end, fuel, verdict, paper, printed, tear. */
public final class FaceTest {
    public static void main(String[] args) {
        newObject();
        Bench.close("FaceTest");
    }

    private static void newObject() {
        ProofDesk desk = new ProofDesk();
        Bench.due("globals()", desk.globals(), 0);
        Bench.due("verdict(0, 0)", desk.verdict(0, 0), -1);
        Bench.due("end(0)", desk.end(0), 0);
        Bench.due("end(1)", desk.end(1), -1);
        Bench.due("paper()", desk.paper(), 0);
        Bench.due("fuel(1)", desk.fuel(1), 5000);
    }
}
