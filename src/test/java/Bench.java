import java.nio.charset.StandardCharsets;

/** What the tests share: a desk that is fed whole texts, and answers that are compared with those that are due. */
final class Bench {
    private static int wrong = 0;
    private static int asked = 0;
    final ProofDesk desk = new ProofDesk();

    /** Feeds a text, padded with blanks, and tells how many bytes of it are the text. */
    int feed(String text) {
        byte[] bytes = text.getBytes(StandardCharsets.ISO_8859_1);
        int[] words = new int[5];
        for (int start = 0; start < bytes.length; start += 20) {
            for (int i = 0; i < 20; i++) {
                int b = start + i < bytes.length ? bytes[start + i] & 255 : 32;
                words[i / 4] = words[i / 4] << 8 | b;
            }
            desk.feed(words[0], words[1], words[2], words[3], words[4]);
        }
        return bytes.length;
    }

    int end(String text) {
        return desk.end(feed(text));
    }

    int find(String name) {
        return desk.find(feed(name));
    }

    /** One verdict as text: its outcome, and behind it the reason and the place, or the cost. */
    String verdict(int k) {
        switch (desk.verdict(k, 0)) {
            case 0: return "accepted " + desk.verdict(k, 3);
            case 1: return "refused " + desk.verdict(k, 1) + " at " + desk.verdict(k, 2);
            case 2: return "out";
            case 3: return "unreadable at " + desk.verdict(k, 2) + (desk.verdict(k, 1) == 0 ? "" : " with a reason");
            default: return "none";
        }
    }

    /** The verdicts of a text, one behind the other, with "; " between them. */
    String verdicts(String text) {
        int count = end(text);
        StringBuilder all = new StringBuilder();
        for (int k = 0; k < count; k++) {
            all.append(k == 0 ? "" : "; ").append(verdict(k));
        }
        return all.toString();
    }

    /** The paper, which is torn off; lines end with "/". */
    String paper() {
        StringBuilder all = new StringBuilder();
        for (int i = 0; i < desk.paper(); i++) {
            int b = desk.printed(i);
            all.append(b == 10 ? '/' : (char) b);
        }
        desk.tear();
        return all.toString();
    }

    String shown(String name) {
        desk.show(find(name));
        return paper();
    }

    static void due(String what, long got, long want) {
        due(what, Long.toString(got), Long.toString(want));
    }

    static void due(String what, boolean got, boolean want) {
        due(what, Boolean.toString(got), Boolean.toString(want));
    }

    static void due(String what, String got, String want) {
        asked++;
        if (!got.equals(want)) {
            wrong++;
            System.out.println(what + " answered " + got + ", due is " + want);
        }
    }

    static void close(String test) {
        System.out.println(test + ": " + asked + " answers, " + wrong + " wrong");
        if (wrong > 0) {
            System.exit(1);
        }
    }
}
