import java.util.ArrayList;
import java.util.List;
import java.util.Random;

/** Random runs of calls, each answer compared with the Model's: all promises at once. */
public final class ModelTest {
    private static final int RUNS = 1500;
    private static final String[] CALLS = {"tray", "write", "read", "pour", "feed", "house", "days", "told", "topic",
        "monk", "entry", "silent", "last", "minute", "change", "wake", "follow", "hear", "enter", "strike", "breathe",
        "price", "rule", "can", "topics", "speakers", "speaker", "spoken", "speakerIn", "breathIn", "pauseIn",
        "pausesIn", "turnIn", "unfair", "enough", "fewest", "fewestSet", "shift", "shiftAt", "talk", "talkAt", "ring",
        "ringAt", "reach", "wins", "best", "heard", "sure", "couples", "allRead", "coughs", "copyBreath", "live",
        "lived", "mean", "mark", "undo"};
    private static final String[] SCRAPS = {";", "<", ">", "=", " ", "\n", "!", "A", "\t", "0", "12345", "9999", "a", "p",
        "end;", "stop;", "turn 5;", "odds 3;", "topic", "monk zz breath 4;", "abcdefghi", "asleep", "rest 3", "loop 2;",
        "when silent p;", "any;", "roster p a;", "hears p p;", "follows a a;", "00005", "0007", "paused<3"};

    private final Random random;
    private final SilentTurn x = new SilentTurn();
    private final Model model = new Model();
    private final List<String> log = new ArrayList<>();
    private boolean wrong;

    private ModelTest(long seed) {
        random = new Random(seed);
    }

    public static void main(String[] args) {
        int runs = args.length > 0 ? Integer.parseInt(args[0]) : RUNS;
        long from = args.length > 1 ? Long.parseLong(args[1]) : 0;
        int bad = 0;
        for (long seed = from; seed < from + runs && bad < 5; seed++) {
            ModelTest run = new ModelTest(seed);
            run.go();
            if (run.wrong) {
                bad++;
                System.out.println("seed " + seed + ":");
                run.log.forEach(System.out::println);
            }
        }
        System.out.println(runs + " runs, " + bad + " not as due");
        if (bad != 0) {
            System.exit(1);
        }
    }

    private void go() {
        for (int i = 0; i < 3 && random.nextInt(30) > 0 && model.s.monks.isEmpty(); i++) {
            giveHouse();
        }
        for (int tray = 0; tray < 4 && random.nextInt(3) > 0; tray++) {
            same("tray", tray, random.nextInt(4), random.nextInt(9));
        }
        int calls = 20 + random.nextInt(100);
        for (int i = 0; i < calls && !wrong; i++) {
            int kind = random.nextInt(40);
            if (kind == 0) {
                giveHouse();
            } else if (kind < 4) {
                giveDays();
            } else {
                random(CALLS[random.nextInt(CALLS.length)]);
            }
        }
    }

    private int below(int n) {
        return random.nextInt(n);
    }

    // Mostly a number that can be, at times one just beside, at times any.
    private int number(int least, int most) {
        int way = below(40);
        if (way == 0) {
            return random.nextInt();
        }
        if (way < 3) {
            return below(2) == 0 ? least - 1 : most + 1;
        }
        if (way < 6) {
            return below(2) == 0 ? least : most;
        }
        return most < least ? least : least + below(most - least + 1);
    }

    private int monkNumber() {
        return number(0, model.s.monks.size() - 1);
    }

    private int topicNumber() {
        return number(0, model.s.topics.size() - 1);
    }

    private int setNumber() {
        return number(0, (1 << model.s.monks.size()) - 1);
    }

    private void random(String call) {
        switch (call) {
            case "tray" -> same(call, number(0, 3), number(0, 3), below(3) == 0 ? number(0, 60) : number(0, 5));
            case "write" -> same(call, number(0, 3), number(0, 5), below(2) == 0 ? below(6) : random.nextLong());
            case "read" -> same(call, number(0, 3), number(0, 5));
            case "pour" -> same(call, number(0, 3), number(0, 4), number(0, 3), number(0, 4), number(0, 4));
            case "feed" -> same(call, random.nextInt(), random.nextInt(), random.nextInt(), 0, 0);
            case "house", "days" -> {
                if (below(12) == 0) {
                    same(call, number(0, model.tape.length()));
                }
            }
            case "told" -> same(call, number(0, 8));
            case "topic" -> same(call, topicNumber(), number(0, 2));
            case "monk" -> same(call, monkNumber(), number(0, 6));
            case "entry" -> same(call, number(0, model.s.roster.size() - 1), number(0, 1));
            case "strike" -> same(call, number(0, model.s.roster.size() - 1));
            case "minute" -> minutes();
            case "wake" -> same(call, monkNumber(), below(2));
            case "follow" -> same(call, topicNumber(), topicNumber(), below(2));
            case "hear" -> same(call, monkNumber(), monkNumber(), below(2));
            case "enter", "can" -> same(call, monkNumber(), topicNumber());
            case "breathe" -> same(call, monkNumber(), number(0, 40));
            case "price" -> same(call, topicNumber(), number(0, 20));
            case "rule" -> same(call, number(3, 4), number(1, 16));
            case "change", "topics", "turnIn" -> same(call, monkNumber());
            case "speakers", "talk", "reach", "wins", "best" -> same(call, topicNumber());
            case "speakerIn", "pausesIn" -> same(call, below(2) == 0 ? number(0, 300) : number(0, 9));
            case "breathIn" -> same(call, monkNumber(), below(2) == 0 ? number(0, 300) : number(0, 9));
            case "enough" -> same(call, setNumber(), number(0, 60) / (1 + below(6)));
            case "fewest", "fewestSet" -> same(call, number(0, 60) / (1 + below(6)));
            case "shift" -> same(call, number(1, 3));
            case "shiftAt" -> same(call, number(1, 3), number(0, 2), number(0, 1));
            case "talkAt" -> same(call, topicNumber(), number(0, 5));
            case "ringAt" -> same(call, number(0, 3));
            case "heard" -> heard(call);
            case "sure" -> heard(call);
            case "couples", "allRead" -> same(call, setNumber());
            case "coughs" -> same(call, number(0, 7));
            case "copyBreath" -> same(call, number(0, 3));
            case "live" -> same(call, number(0, 9999));
            case "lived" -> same(call, number(0, 4));
            case "mean" -> same(call, number(0, 9999), number(1, 20) % 64);
            default -> same(call);
        }
    }

    // At times to the last minute that there can be.
    private void minutes() {
        if (below(50) > 0) {
            same("minute", below(3) == 0 ? number(1, 99) : number(1, 4));
            return;
        }
        int most = below(3) == 0 ? 9999 : 9990 - below(100);
        while (model.s.minute < most && !wrong) {
            same("minute", Math.min(99, most - model.s.minute));
        }
    }

    private void heard(String call) {
        int tray = number(0, 3);
        if (below(3) > 0) {
            same("tray", tray, below(4), number(3, 5));
            int topic = below(6);
            for (int i = 0; i < 4; i++) {
                same("write", tray, i, topic);
                topic = follower(topic);
            }
        }
        if (call.equals("sure")) {
            same(call, tray, number(0, 4), number(0, 3));
        } else {
            same(call, tray, number(0, 4));
        }
    }

    private int follower(int topic) {
        for (int i = 0; i < 12; i++) {
            int next = below(6);
            if (model.s.follows.contains(List.of(topic, next))) {
                return next;
            }
        }
        return below(6);
    }

    // ---- texts

    private void giveText(String call, String text) {
        String cut = text.length() > 900 ? text.substring(0, 900) : text;
        byte[] bytes = cut.getBytes(java.nio.charset.StandardCharsets.ISO_8859_1);
        for (int at = 0; at < bytes.length; at += 20) {
            same("feed", Checks.four(bytes, at), Checks.four(bytes, at + 4), Checks.four(bytes, at + 8),
                    Checks.four(bytes, at + 12), Checks.four(bytes, at + 16));
        }
        log.add("  text: " + cut);
        same(call, below(40) == 0 ? bytes.length / 2 : bytes.length);
    }

    private String spoiled(String text, int often) {
        if (below(often) > 0) {
            return text;
        }
        StringBuilder s = new StringBuilder(text);
        for (int times = 1 + below(2); times > 0; times--) {
            int at = below(s.length() + 1);
            switch (below(3)) {
                case 0 -> s.insert(at, SCRAPS[below(SCRAPS.length)]);
                case 1 -> s.delete(at, Math.min(s.length(), at + 1 + below(6)));
                default -> {
                    int end = Math.min(s.length(), at + 1);
                    s.replace(at, end, String.valueOf((char) (32 + below(95))));
                }
            }
        }
        return s.toString();
    }

    private void giveHouse() {
        List<String> parts = new ArrayList<>();
        int topics = below(4) == 0 ? below(8) : 2 + below(5);
        int monks = below(4) == 0 ? below(9) : 2 + below(6);
        if (below(2) == 0) {
            parts.add("turn " + (below(40) == 0 ? 100 * below(2) : 1 + below(below(3) == 0 ? 99 : 5)));
        }
        if (below(2) == 0) {
            parts.add("odds " + below(below(10) == 0 ? 20 : 17));
        }
        for (int t = 0; t < topics; t++) {
            parts.add("topic " + (char) ('a' + t) + " cost " + below(below(3) == 0 ? 21 + below(2) : 6));
        }
        for (int m = 0; m < monks; m++) {
            parts.add("monk " + (char) ('p' + m) + " breath " + below(below(3) == 0 ? 100 : 20)
                    + (below(2) == 0 ? " rest " + below(below(2) == 0 ? 10 : below(20) == 0 ? 12 : 3) : "") + (below(5) == 0 ? " asleep" : ""));
        }
        int density = 1 + below(4);
        for (int i = 0; topics > 0 && i < density * topics; i++) {
            int t = below(topics);
            int next = below(2 * topics) == 0 ? t : below(topics);
            if (t != next || density == 4 || below(9) == 0) {
                parts.add("follows " + (char) ('a' + t) + " " + (char) ('a' + next));
            }
        }
        for (int i = below(6); monks > 0 && topics > 0 && i > 0; i--) {
            parts.add("roster " + (char) ('p' + below(monks)) + " " + (char) ('a' + below(topics)));
        }
        for (int i = below(2 * monks + 1); monks > 1 && i > 0; i--) {
            int m = below(monks);
            if (below(80) == 0) {
                parts.add("hears " + (char) ('p' + m) + " " + (char) ('p' + m));
            }
            parts.add("hears " + (char) ('p' + m) + " " + (char) ('p' + (m + 1 + below(monks - 1)) % monks));
        }
        giveText("house", spoiled(String.join(below(2) == 0 ? ";" : " ;\n", parts) + (parts.isEmpty() ? "" : ";"), 4));
    }

    private String monkName() {
        return String.valueOf((char) ('p' + (below(20) == 0 ? below(8) : below(Math.max(1, model.s.monks.size())))));
    }

    private String topicName() {
        return String.valueOf((char) ('a' + (below(20) == 0 ? below(8) : below(Math.max(1, model.s.topics.size())))));
    }

    private void giveDays() {
        StringBuilder s = new StringBuilder();
        int left = below(3) == 0 ? below(40) : below(12);
        daySteps(s, left, 0);
        giveText("days", spoiled(s.toString(), 4));
    }

    private void daySteps(StringBuilder s, int many, int depth) {
        int left = many;
        while (left > 0) {
            left--;
            switch (below(9)) {
                case 0, 1 -> s.append("minute ").append(1 + below(below(4) == 0 ? 61 : 5)).append(';');
                case 2 -> s.append("change ").append(monkName()).append(';');
                case 3 -> s.append(below(2) == 0 ? "wake " : "sleep ").append(monkName()).append(';');
                case 4, 5 -> s.append("any;");
                case 6 -> {
                    if (below(4) == 0) {
                        s.append("stop;");
                    }
                }
                default -> {
                    if (depth < (below(4) == 0 ? 4 : 3)) {
                        opening(s);
                        int within = below(Math.min(6, left + 1));
                        daySteps(s, within, depth + 1);
                        left -= within;
                        s.append("end;");
                    }
                }
            }
        }
    }

    private void opening(StringBuilder s) {
        String sign = "<>=".substring(below(3)).substring(0, 1);
        switch (below(6)) {
            case 0 -> s.append("when silent ").append(monkName());
            case 1 -> s.append("when last ").append(topicName());
            case 2 -> s.append("when breath ").append(monkName()).append(sign).append(below(12));
            case 3 -> s.append("when paused").append(sign).append(below(12));
            default -> s.append("loop ").append(1 + below(below(3) == 0 ? 100 : 6));
        }
        s.append(';');
    }

    // ---- both

    private void same(String call, long... a) {
        if (wrong) {
            return;
        }
        long want = model.call(call, a);
        long got = Caller.call(x, call, a);
        StringBuilder line = new StringBuilder("  ").append(call).append(java.util.Arrays.toString(a));
        line.append(" answered ").append(got).append(" (").append(seen()).append(')');
        if (got != want || !seen().equals(model.seen())) {
            wrong = true;
            line.append(", due is ").append(want).append(" (").append(model.seen()).append(')');
        }
        log.add(line.toString());
    }

    private String seen() {
        return x.status() + " " + x.top() + "/" + x.bottom() + " [" + x.fault(0) + ", " + x.fault(1) + "]";
    }
}
