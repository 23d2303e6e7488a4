import java.util.Random;

/** Long runs of calls, the same ones each time, asked of RollTown and of PlainTown. */
public final class RandomRunsTest {
    private static final int RUNS = 400;
    private static final int CALLS = 512;
    private static final int[] EDGES = {Integer.MIN_VALUE, Integer.MAX_VALUE, -2, -1, 0, 1, 10, 31, 60, 100, 121, 201, 1000};
    private static final String[] WORDS = {
        "stone", "sand", "straw", "bend", "gate", "fall", "shut", "thing", "cheese", "drum", "rock", "bale", "ring",
        "box", "weight", "rolls", "lean", "to", "by", "-", ";", "0", "1", "9", "30", "31", "59", "060", "1000", "x", "$", " "};

    private final Random random;
    private final RollTown x = new RollTown();
    private final PlainTown y = new PlainTown();
    private final Due due;
    /** What kind of run it is: 0 of all calls alike, 1 with few wrong arguments, 2 late in the minutes. */
    private final int manner;

    private RandomRunsTest(int run, Due due) {
        random = new Random(run);
        manner = run % 3;
        this.due = due;
    }

    public static void main(String[] args) {
        Due due = new Due("RandomRuns");
        for (int run = 0; run < RUNS; run++) {
            new RandomRunsTest(run, due).play();
        }
        due.end();
    }

    private void play() {
        int calls = 0;
        if (manner == 2) {
            for (int i = 0; i < 81; i++) {
                x.minutes(120);
                y.minutes(120);
                calls++;
            }
        }
        if (manner == 1) {
            for (int i = random.nextInt(8); i >= 0; i--) {
                calls += both(5);
            }
        }
        while (calls < CALLS - 40) {
            calls += both(random.nextInt(54));
        }
        for (int which = -1; which < 8; which++) {
            due.is("status(" + which + ")", x.status(which), y.status(which));
        }
    }

    private int in(int low, int high) {
        if (random.nextInt(manner == 1 ? 400 : 40) == 0) {
            return EDGES[random.nextInt(EDGES.length)];
        }
        if (random.nextInt(manner == 1 ? 400 : 60) == 0) {
            return random.nextBoolean() ? low - 1 : high + 1;
        }
        return low + random.nextInt(high - low + 1);
    }

    private int thing() {
        return in(0, Math.max(0, x.count(1) - 1));
    }

    private int set() {
        return in(0, (1 << x.count(1)) - 1);
    }

    private void say(String call, int got, int want) {
        due.is(call, got, want);
    }

    private int both(int op) {
        int a;
        int b;
        int c;
        switch (op) {
            case 0: case 1: a = in(0, 30); b = random.nextInt(3) > 0 ? in(1, 5) : in(-9, 9); say("fall " + a + " " + b, x.fall(a, b), y.fall(a, b)); return 1;
            case 2: a = in(0, 30); b = in(0, 4); say("ground " + a + " " + b, x.ground(a, b), y.ground(a, b)); return 1;
            case 3: a = in(0, 1); b = in(0, 59); say("gate " + a + " " + b, x.gate(a, b), y.gate(a, b)); return 1;
            case 4: a = in(0, 9999); say("shut " + a, x.shut(a), y.shut(a)); return 1;
            case 5: a = in(0, 6); b = in(1, 99); say("thing " + a + " " + b, x.thing(a, b), y.thing(a, b)); return 1;
            case 6: a = thing(); b = in(0, 8); say("of " + a + " " + b, x.of(a, b), y.of(a, b)); return 1;
            case 7: a = thing(); b = in(0, 3); c = in(0, 9); say("change " + a + " " + b + " " + c, x.change(a, b, c), y.change(a, b, c)); return 1;
            case 8: a = thing(); b = in(0, 1); c = in(0, 30); say("told " + a + " " + b + " " + c, x.told(a, b, c), y.told(a, b, c)); return 1;
            case 9: case 10: a = thing(); say("go " + a, x.go(a), y.go(a)); return 1;
            case 11: a = thing(); b = new int[] {0, 30, in(0, 30), in(0, 30)}[random.nextInt(4)]; say("put " + a + " " + b, x.put(a, b), y.put(a, b)); return 1;
            case 12: a = random.nextInt(9) == 0 ? in(1, 120) : in(1, 4); say("minutes " + a, x.minutes(a), y.minutes(a)); return 1;
            case 13: a = in(0, 3); say("are " + a, x.are(a), y.are(a)); return 1;
            case 14: a = in(0, 30); say("on " + a, x.on(a), y.on(a)); return 1;
            case 15: a = in(0, 200); b = in(0, 13); say("ahead " + a + " " + b, x.ahead(a, b), y.ahead(a, b)); return 1;
            case 16: say("meet", x.meet(), y.meet()); return 1;
            case 17: a = thing(); say("ends " + a, x.ends(a), y.ends(a)); return 1;
            case 18: a = thing(); say("takes " + a, x.takes(a), y.takes(a)); return 1;
            case 19: a = thing(); say("speed " + a, x.speed(a), y.speed(a)); return 1;
            case 20: a = thing(); say("seen " + a, x.seen(a), y.seen(a)); return 1;
            case 21: a = thing(); b = in(0, 30); say("sand " + a + " " + b, x.sand(a, b), y.sand(a, b)); return 1;
            case 22: a = thing(); say("rollsFor " + a, x.rollsFor(a), y.rollsFor(a)); return 1;
            case 23: a = thing(); say("matters " + a, x.matters(a), y.matters(a)); return 1;
            case 24: a = thing(); say("kindFor " + a, x.kindFor(a), y.kindFor(a)); return 1;
            case 25: a = thing(); say("wait " + a, x.wait(a), y.wait(a)); return 1;
            case 26: a = thing(); b = thing(); say("behind " + a + " " + b, x.behind(a, b), y.behind(a, b)); return 1;
            case 27: say("come", x.come(), y.come()); return 1;
            case 28: a = set(); say("pack " + a, x.pack(a), y.pack(a)); return 1;
            case 29: a = set(); say("lean " + a, x.lean(a), y.lean(a)); return 1;
            case 30: a = set(); b = in(1, 150); say("drums " + a + " " + b, x.drums(a, b), y.drums(a, b)); return 1;
            case 31: say("waits", x.waits(), y.waits()); return 1;
            case 32: say("least", x.least(), y.least()); return 1;
            case 33: a = in(0, 9); say("order " + a, x.order(a), y.order(a)); return 1;
            case 34: a = in(1, 40); if (random.nextInt(3) == 0) { say("wheel " + a, x.wheel(a), y.wheel(a)); } return 1;
            case 35: a = thing(); b = in(1, 20); say("odds " + a + " " + b, x.odds(a, b), y.odds(a, b)); return 1;
            case 36: say("worst", x.worst(), y.worst()); return 1;
            case 37: a = random.nextInt(); say("seed " + a, x.seed(a), y.seed(a)); return 1;
            case 38: a = random.nextInt(); b = in(1, 4); say("feed " + a + " " + b, x.feed(a, b), y.feed(a, b)); return 1;
            case 39: say("wipe", x.wipe(), y.wipe()); return 1;
            case 40: return readText();
            case 41: a = in(0, 9); b = in(-1, 9); say("hold " + a + " " + b, x.hold(a, b), y.hold(a, b)); return 1;
            case 42: a = in(0, 9); b = in(0, 6); say("as " + a + " " + b, x.as(a, b), y.as(a, b)); return 1;
            case 43: a = in(0, 3); b = new int[] {8, 8, 8, 8, 16, 16, 32, 0, 9}[random.nextInt(9)]; c = in(0, 40); say("sheet " + a + " " + b + " " + c, x.sheet(a, b, c), y.sheet(a, b, c)); return 1;
            case 44: case 45: a = in(0, 3); b = in(0, 12); c = random.nextInt(4) == 0 ? random.nextInt() : in(-9, 9); say("write " + a + " " + b + " " + c, x.write(a, b, c), y.write(a, b, c)); return 1;
            case 46: return copySheets();
            case 47: a = in(0, 3); b = in(0, 30); say("load " + a + " " + b, x.load(a, b), y.load(a, b)); return 1;
            case 48: a = in(0, 3); b = thing(); say("judge " + a + " " + b, x.judge(a, b), y.judge(a, b)); return 1;
            case 49: say("image", x.image(), y.image()); return 1;
            case 50: if (random.nextInt(6) == 0) { say("undo", x.undo(), y.undo()); } return 1;
            case 51: if (random.nextInt(5) == 0) { say("tear", x.tear(), y.tear()); } return 1;
            case 52: a = in(0, 7); say("count " + a, x.count(a), y.count(a)); return 1;
            default: a = in(-1, 6); say("status " + a, x.status(a), y.status(a)); return 1;
        }
    }

    private int copySheets() {
        int s = in(0, 3);
        int from = in(0, 10);
        int t = random.nextBoolean() ? s : in(0, 3);
        int to = in(0, 10);
        int n = in(0, 10);
        say("copy " + s + " " + from + " " + t + " " + to + " " + n, x.copy(s, from, t, to, n), y.copy(s, from, t, to, n));
        return 1;
    }

    private int readText() {
        StringBuilder b = new StringBuilder();
        int items = 1 + random.nextInt(5);
        for (int i = 0; i < items; i++) {
            b.append(i == 0 ? "" : ";").append(item());
        }
        if (random.nextInt(2) == 0) {
            for (int i = random.nextInt(3); i >= 0; i--) {
                b.insert(random.nextInt(b.length() + 1), WORDS[random.nextInt(WORDS.length)]);
            }
        }
        int calls = 0;
        String text = b.toString();
        for (int at = 0; at < text.length(); at += 4) {
            int n = Math.min(4, text.length() - at);
            int bytes = 0;
            for (int i = 0; i < n; i++) {
                bytes = bytes << 8 | text.charAt(at + i);
            }
            say("feed", x.feed(bytes, n), y.feed(bytes, n));
            calls++;
        }
        say("text '" + text + "'", x.text(), y.text());
        return calls + 1;
    }

    private String item() {
        String gap = random.nextInt(4) == 0 ? "" : " ";
        int a = in(0, 30);
        int b = Math.max(a, in(0, 30));
        switch (random.nextInt(4)) {
            case 0: return WORDS[random.nextInt(5)] + gap + a + (random.nextBoolean() ? "" : gap + "to" + gap + b);
            case 1: return "fall" + gap + a + (random.nextBoolean() ? "" : gap + "to" + gap + b) + gap + "by" + gap + (random.nextInt(4) == 0 ? "-" : "") + in(0, 9);
            case 2: return "shut" + gap + in(0, 59) + gap + "to" + gap + in(0, 59);
            default: return WORDS[7 + random.nextInt(7)] + (random.nextBoolean() ? "" : " weight" + gap + in(1, 99))
                + (random.nextBoolean() ? "" : " rolls" + gap + in(1, 9)) + (random.nextBoolean() ? "" : " lean" + gap + in(0, 9));
        }
    }
}
