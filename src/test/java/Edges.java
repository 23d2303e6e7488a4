import java.io.IOException;
import java.lang.reflect.InvocationTargetException;
import java.lang.reflect.Method;
import java.util.ArrayList;
import java.util.HashMap;
import java.util.List;
import java.util.Map;

/**
 * Asks for the document's sentences one by one: each test quotes its words first (says), makes an object (town)
 * and asks. Calls are written as texts, such as "fall(31, 0)", so that they can be played again on a new object.
 */
final class Edges {
    private static final int MOST_CALLS = 512;
    private static final Map<String, Method> ACTS = new HashMap<>();
    private static final List<List<String>> VIEWS = new ArrayList<>();

    static {
        for (Method m : RollTown.class.getDeclaredMethods()) {
            ACTS.put(m.getName(), m);
        }
        List<String> lane = laneView();
        List<String> things = thingsView();
        VIEWS.add(lane);
        VIEWS.add(things);
        VIEWS.add(behind("text()", lane));
        VIEWS.add(behind("undo()", lane));
        VIEWS.add(behind("undo()", things));
        for (int s = 0; s < 4; s++) {
            VIEWS.add(sheetView(s));
        }
    }

    /** An object and how often it was called: nothing is promised of it behind 512 calls. */
    private static final class Played {
        private final RollTown x = new RollTown();
        private int calls = 0;

        int call(String call) {
            calls++;
            if (calls > MOST_CALLS) {
                throw new IllegalStateException("too many calls on one object, at " + call);
            }
            int open = call.indexOf('(');
            String inside = call.substring(open + 1, call.length() - 1).strip();
            String[] words = inside.isEmpty() ? new String[0] : inside.split(",");
            Object[] args = new Object[words.length];
            for (int i = 0; i < args.length; i++) {
                args[i] = number(words[i].strip());
            }
            try {
                return (Integer) ACTS.get(call.substring(0, open)).invoke(x, args);
            } catch (IllegalAccessException | InvocationTargetException e) {
                throw new IllegalStateException(call, e);
            }
        }

        private static int number(String word) {
            return word.equals("least") ? Integer.MIN_VALUE : word.equals("most") ? Integer.MAX_VALUE : Integer.parseInt(word);
        }
    }

    private final Due due = new Due("Sentences");
    private final Doc doc = new Doc();
    private final List<String> played = new ArrayList<>();
    private Played town = new Played();
    private String words = "";
    private int asked = 1;

    Edges() throws IOException {
    }

    /** Quotes the words that are tested next; promise 0: the Terms. */
    void says(int promise, String quote) {
        endOfWords();
        words = promise + ": '" + quote + "'";
        due.is(words + " stands in the document", doc.quote(promise, quote) ? 1 : 0, 1);
        town("");
    }

    private void endOfWords() {
        due.is(words + " is asked for", asked > 0 ? 1 : 0, 1);
        asked = 0;
    }

    void end() {
        endOfWords();
        due.is("promises in the document", doc.promises(), 52);
        due.same("words that no test quotes", String.join("\n      ", doc.unquoted()), "");
        due.end();
    }

    /** A new object, and calls on it. */
    void town(String calls) {
        town = new Played();
        played.clear();
        play(calls);
    }

    /** More calls, divided by semicolons, whose answers don't matter; none of them may be refused. */
    void play(String calls) {
        for (String call : calls.split(";")) {
            if (!call.isBlank()) {
                int answer = next(call.strip());
                // What z was may be any number, so an answer of seed() is no finding.
                boolean isFinding = answer < -1000000 && !call.strip().startsWith("seed");
                due.is(words + " " + call + " is not refused", isFinding ? answer : 0, 0);
            }
        }
    }

    /** Lets minutes go till it is the one that is wanted. */
    void minute(int wanted) {
        int left = wanted - replay(played).call("count(0)");
        while (left > 0) {
            play("minutes(" + Math.min(120, left) + ")");
            left -= 120;
        }
    }

    private int next(String call) {
        played.add(call);
        return town.call(call);
    }

    /** A call with its answer. */
    void due(String call, int want) {
        asked++;
        due.is(words + " " + call, next(call), want);
    }

    /** A call that tells something and changes nothing, not even status(). */
    void tells(String call, int want) {
        asked++;
        due.is(words + " " + call, behindPlayed(call).call("status(-1)"), replay(played).call("status(-1)"));
        due.is(words + " " + call, replay(played).call(call), want);
        due.same(words + " what " + call + " leaves", view(with(call)), view(played));
    }

    void beyond(String... calls) {
        refused(Due.BEYOND, calls);
    }

    void full(String... calls) {
        refused(Due.FULL, calls);
    }

    void kind(String... calls) {
        refused(Due.KIND, calls);
    }

    void none(String... calls) {
        refused(Due.NONE, calls);
    }

    void state(String... calls) {
        refused(Due.STATE, calls);
    }

    void missing(String... calls) {
        refused(Due.MISSING, calls);
    }

    void size(String... calls) {
        refused(Due.SIZE, calls);
    }

    /** Each call answers the finding, is counted by status(), and changes nothing else. */
    private void refused(int finding, String... calls) {
        String before = view(played);
        for (String call : calls) {
            asked++;
            due.is(words + " " + call, replay(played).call(call), finding);
            due.same(words + " what " + call + " leaves", view(with(call)), before);
            for (int which = -1; which < 7; which++) {
                int more = which == -1 || which == Due.BEYOND - finding ? 1 : 0;
                String status = "status(" + which + ")";
                due.is(words + " " + status + " behind " + call, behindPlayed(call).call(status), replay(played).call(status) + more);
            }
        }
    }

    /** Puts a text on the tape. */
    void feed(String text) {
        for (int at = 0; at < text.length(); at += 4) {
            int n = Math.min(4, text.length() - at);
            int bytes = 0;
            for (int i = 0; i < n; i++) {
                bytes = bytes << 8 | text.charAt(at + i) & 255;
            }
            due.is(words + " feeding '" + text + "'", next("feed(" + bytes + ", " + n + ")") > 0 ? 1 : 0, 1);
        }
    }

    /** A text without a FAULT; what it tells stays. */
    void reads(String text, int items) {
        feed(text);
        asked++;
        due.is(words + " reading '" + text + "'", next("text()"), items);
        due.is(words + " tape behind '" + text + "'", replay(played).call("count(5)"), 0);
    }

    /** A text with a FAULT: THE TAPE is empty then, and nothing else changes. */
    void fault(String text, int place) {
        List<String> before = new ArrayList<>(played);
        feed(text);
        asked++;
        due.is(words + " reading '" + text + "'", next("text()"), -1 - place);
        due.same(words + " what '" + text + "' leaves", view(played), view(before));
        due.is(words + " findings behind '" + text + "'", replay(played).call("status(-1)"), replay(before).call("status(-1)"));
        played.clear();
        played.addAll(before);
        town = replay(before);
    }

    private List<String> with(String call) {
        List<String> calls = new ArrayList<>(played);
        calls.add(call);
        return calls;
    }

    private Played behindPlayed(String call) {
        return replay(with(call));
    }

    private static Played replay(List<String> calls) {
        Played twin = new Played();
        for (String call : calls) {
            twin.call(call);
        }
        return twin;
    }

    /** All that can be seen of an object but status(); to look changes it, so each view gets one of its own. */
    private static String view(List<String> calls) {
        StringBuilder b = new StringBuilder();
        for (List<String> asks : VIEWS) {
            Played twin = replay(calls);
            for (String ask : asks) {
                b.append(twin.call(ask)).append(' ');
            }
        }
        return b.toString();
    }

    private static List<String> laneView() {
        List<String> asks = new ArrayList<>();
        for (int what = 0; what < 8; what++) {
            asks.add("count(" + what + ")");
        }
        for (int c = 0; c < 31; c++) {
            asks.add("fall(" + c + ", 0)");
            asks.add("ground(" + c + ", 0)");
        }
        asks.add("gate(0, 0)");
        asks.add("gate(1, 0)");
        asks.add("tear()");
        return asks;
    }

    private static List<String> thingsView() {
        List<String> asks = new ArrayList<>();
        for (int i = 0; i < 10; i++) {
            for (int what = 0; what < 9; what++) {
                asks.add("of(" + i + ", " + what + ")");
            }
            asks.add("as(" + i + ", 0)");
        }
        return asks;
    }

    /** Its numbers are seen as FALLS, so far as they are -9 to 9; then how many it has, then its bits. */
    private static List<String> sheetView(int s) {
        List<String> asks = new ArrayList<>();
        asks.add("load(" + s + ", 0)");
        for (int c = 0; c < 31; c++) {
            asks.add("fall(" + c + ", 0)");
        }
        for (int i = 0; i < 40; i++) {
            asks.add("write(" + s + ", " + i + ", 5)");
        }
        for (int cutByBits : new int[] {261, 65541}) {
            asks.add("write(" + s + ", 0, " + cutByBits + ")");
            asks.add("load(" + s + ", 0)");
        }
        return asks;
    }

    private static List<String> behind(String first, List<String> then) {
        List<String> asks = new ArrayList<>();
        asks.add(first);
        asks.addAll(then);
        return asks;
    }
}
