import java.nio.charset.StandardCharsets;
import java.util.ArrayList;
import java.util.Arrays;
import java.util.List;

/**
 * What the tests share: a desk that is fed whole texts, and answers that are compared with those that are due. Nothing
 * is promised of an object beyond its 512th call, so a bench whose desk has had that many goes on with a new one, on
 * which it makes all calls again that change something.
 */
final class Bench {
    static final int MOST_CALLS = 512;
    private static final int FEED = 0;
    private static final int END = 1;
    private static final int FUEL = 2;
    private static final int TEAR = 3;
    private static final int FIND = 4;
    private static final int SHOW = 5;
    private static final int FORGET = 6;
    private static int wrong = 0;
    private static int asked = 0;
    private final List<int[]> changes = new ArrayList<>();
    private final List<Integer> answers = new ArrayList<>();
    private ProofDesk desk = new ProofDesk();
    private int calls = 0;

    Bench() {
    }

    /** A bench on which the same was done. */
    Bench(Bench other) {
        changes.addAll(other.changes);
        answers.addAll(other.answers);
        renew();
    }

    private void renew() {
        desk = new ProofDesk();
        calls = changes.size();
        if (calls >= MOST_CALLS) {
            due("calls of one run", calls, MOST_CALLS - 1);
        }
        for (int i = 0; i < changes.size(); i++) {
            due("once more: " + Arrays.toString(changes.get(i)), perform(changes.get(i)), answers.get(i));
        }
    }

    /** A desk that may be asked once more. */
    private ProofDesk ready() {
        if (calls == MOST_CALLS) {
            renew();
        }
        calls++;
        return desk;
    }

    private int change(int... call) {
        ready();
        int answer = perform(call);
        changes.add(call);
        answers.add(answer);
        return answer;
    }

    private int perform(int[] call) {
        switch (call[0]) {
            case FEED: return desk.feed(call[1], call[2], call[3], call[4], call[5]);
            case END: return desk.end(call[1]);
            case FUEL: return desk.fuel(call[1]);
            case TEAR: return desk.tear();
            case FIND: return desk.find(call[1]);
            case SHOW: return desk.show(call[1]);
            default: return desk.forget(call[1]);
        }
    }

    int feed(int a, int b, int c, int d, int e) {
        return change(FEED, a, b, c, d, e);
    }

    int end(int n) {
        return change(END, n);
    }

    int fuel(int n) {
        return change(FUEL, n);
    }

    int tear() {
        return change(TEAR);
    }

    int find(int n) {
        return change(FIND, n);
    }

    int show(int g) {
        return change(SHOW, g);
    }

    int forget(int g) {
        return change(FORGET, g);
    }

    int verdict(int k, int what) {
        return ready().verdict(k, what);
    }

    int paper() {
        return ready().paper();
    }

    int printed(int i) {
        return ready().printed(i);
    }

    int globals() {
        return ready().globals();
    }

    int about(int g, int what) {
        return ready().about(g, what);
    }

    boolean leans(int g, int h) {
        return ready().leans(g, h);
    }

    /** Feeds a text, padded with blanks, and tells how many bytes of it are the text. */
    int feed(String text) {
        byte[] bytes = text.getBytes(StandardCharsets.ISO_8859_1);
        int[] words = new int[5];
        for (int start = 0; start < bytes.length; start += 20) {
            for (int i = 0; i < 20; i++) {
                int b = start + i < bytes.length ? bytes[start + i] & 255 : 32;
                words[i / 4] = words[i / 4] << 8 | b;
            }
            feed(words[0], words[1], words[2], words[3], words[4]);
        }
        return bytes.length;
    }

    int end(String text) {
        return end(feed(text));
    }

    int find(String name) {
        return find(feed(name));
    }

    /** One verdict as text: its outcome, and behind it the reason and the place, or the cost. */
    String verdict(int k) {
        int reason = verdict(k, 1);
        int place = verdict(k, 2);
        int cost = verdict(k, 3);
        switch (verdict(k, 0)) {
            case 0: return "accepted " + cost + (reason == 0 && place == 0 ? "" : " with a reason or a place");
            case 1: return "refused " + reason + " at " + place + (cost == 0 ? "" : " with a cost");
            case 2: return "out" + (reason == 0 && place == 0 && cost == 0 ? "" : " with more");
            case 3: return "unreadable at " + place + (reason == 0 && cost == 0 ? "" : " with a reason or a cost");
            default: return "none";
        }
    }

    /** The verdicts of the latest text, one behind the other, with "; " between them. */
    String verdicts() {
        StringBuilder all = new StringBuilder();
        for (int k = 0; verdict(k, 0) != ProofDesk.NONE; k++) {
            all.append(k == 0 ? "" : "; ").append(verdict(k));
        }
        return all.toString();
    }

    String verdicts(String text) {
        end(text);
        return verdicts();
    }

    /** What stands on the paper; lines end with "/". */
    String read() {
        StringBuilder all = new StringBuilder();
        int length = paper();
        for (int i = 0; i < length; i++) {
            int b = printed(i);
            all.append(b == 10 ? '/' : (char) b);
        }
        return all.toString();
    }

    /** What stands on the paper, which is torn off. */
    String torn() {
        String text = read();
        tear();
        return text;
    }

    String shown(String name) {
        show(find(name));
        return torn();
    }

    /** All that can be asked of the desk, with the bytes that it holds; nothing of it is changed by asking. */
    String state() {
        StringBuilder all = new StringBuilder(verdicts()).append('|').append(read()).append('|');
        int count = globals();
        for (int g = 0; g < count; g++) {
            for (int what = 0; what < 6; what++) {
                all.append(about(g, what)).append(' ');
            }
            for (int h = 0; h < count; h++) {
                all.append(leans(g, h) ? '+' : '-');
            }
        }
        Bench other = new Bench(this);
        all.append('|').append(other.fuel(10000)).append('|').append(other.tear());
        for (int g = 0; g < count; g++) {
            other.show(g);
        }
        int bytes = other.feed(0, 0, 0, 0, 0) - 20;
        all.append('|').append(other.torn()).append('|').append(bytes).append('|').append(other.end(bytes));
        return all.append(other.verdicts()).append('|').append(other.read()).toString();
    }

    static void due(String what, long got, long want) {
        due(what, Long.toString(got), Long.toString(want));
    }

    static void due(String what, boolean got, boolean want) {
        due(what, Boolean.toString(got), Boolean.toString(want));
    }

    static void due(String what, String got, String want) {
        asked++;
        if (!got.equals(want)) {
            wrong++;
            System.out.println(what + " answered " + got + ", due is " + want);
        }
    }

    static void close(String test) {
        System.out.println(test + ": " + asked + " answers, " + wrong + " wrong");
        if (wrong > 0) {
            System.exit(1);
        }
    }
}
