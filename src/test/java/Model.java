import java.math.BigInteger;
import java.util.ArrayList;
import java.util.Arrays;
import java.util.Comparator;
import java.util.HashSet;
import java.util.List;
import java.util.Set;
import java.util.regex.Matcher;
import java.util.regex.Pattern;

/**
 * The document a second time, written with the whole library and without a thought for speed: ways are
 * listed and sorted, texts are cut by patterns, days are a tree. ModelTest compares the class with it.
 */
final class Model {
    static final Set<String> KEPT = Set.of("turn", "odds", "topic", "cost", "monk", "breath", "rest", "asleep",
            "follows", "roster", "hears", "minute", "change", "wake", "sleep", "any", "when", "silent", "last",
            "paused", "loop", "end", "stop");

    static final class Fault extends Exception {
        private static final long serialVersionUID = 1L;
        final int kind;
        final int place;

        Fault(int kind, int place) {
            this.kind = kind;
            this.place = place;
        }
    }

    /** Thrown where a call has another STATUS than 0. */
    static final class Refused extends RuntimeException {
        private static final long serialVersionUID = 1L;
        final int status;

        Refused(int status) {
            super(null, null, false, false);
            this.status = status;
        }
    }

    static void refuse(int status, boolean is) {
        if (is) {
            throw new Refused(status);
        }
    }

    static final class Monk {
        String name;
        int breath;
        int most;
        int rest;
        boolean awake;
        int spoke;
        int kept;

        Monk copy() {
            Monk m = new Monk();
            m.name = name;
            m.breath = breath;
            m.most = most;
            m.rest = rest;
            m.awake = awake;
            m.spoke = spoke;
            m.kept = kept;
            return m;
        }
    }

    static final class Step {
        String word;
        String test;
        int who;
        char sign;
        int number;
        List<Step> within;
    }

    static final class State {
        List<String> topics = new ArrayList<>();
        List<Integer> costs = new ArrayList<>();
        Set<List<Integer>> follows = new HashSet<>();
        List<Monk> monks = new ArrayList<>();
        Set<Set<Integer>> hears = new HashSet<>();
        List<int[]> roster = new ArrayList<>();
        int turn = 10;
        int odds = 1;
        int minute;
        int silent;
        int last = -1;
        int pauses;
        int helped;
        List<Step> days;

        State copy() {
            State s = new State();
            s.topics = new ArrayList<>(topics);
            s.costs = new ArrayList<>(costs);
            s.follows = new HashSet<>(follows);
            for (Monk m : monks) {
                s.monks.add(m.copy());
            }
            s.hears = new HashSet<>(hears);
            s.roster = new ArrayList<>(roster);
            s.turn = turn;
            s.odds = odds;
            s.minute = minute;
            s.silent = silent;
            s.last = last;
            s.pauses = pauses;
            s.helped = helped;
            s.days = days;
            return s;
        }

        boolean can(int m, int t) {
            Monk monk = monks.get(m);
            return monk.awake && m != silent && monk.breath >= costs.get(t)
                    && (last == -1 || follows.contains(List.of(last, t)));
        }

        int[] speech() {
            if (!roster.isEmpty()) {
                int[] entry = roster.get(minute % roster.size());
                if (can(entry[0], entry[1])) {
                    return new int[] {entry[0], entry[1], 0};
                }
            }
            for (int m = 0; m < monks.size(); m++) {
                for (int t = 0; t < topics.size(); t++) {
                    if (can(m, t)) {
                        return new int[] {m, t, 1};
                    }
                }
            }
            return null;
        }

        boolean minute() {
            int[] speech = speech();
            if (speech == null) {
                pauses++;
                said(-1, -1);
                return false;
            }
            helped += speech[2];
            said(speech[0], speech[1]);
            return true;
        }

        void said(int m, int t) {
            for (int i = 0; i < monks.size(); i++) {
                Monk monk = monks.get(i);
                if (i == silent) {
                    monk.kept++;
                }
                if (i == m) {
                    monk.breath -= costs.get(t);
                    monk.spoke++;
                } else {
                    for (int r = 0; r < monk.rest; r++) {
                        if (monk.breath < monk.most) {
                            monk.breath++;
                        }
                    }
                }
            }
            last = t;
            minute++;
            if (minute % turn == 0) {
                silent++;
                if (silent >= monks.size()) {
                    silent = 0;
                }
            }
        }

        State in(int minutes) {
            State s = copy();
            for (int i = 0; i < minutes; i++) {
                s.minute();
            }
            return s;
        }

        int leastBreath() {
            return monks.stream().mapToInt(m -> m.breath).min().orElse(0);
        }
    }

    // ---- texts

    record Token(char kind, String text, int place) {
    }

    static List<Token> tokens(String text) {
        List<Token> list = new ArrayList<>();
        Matcher m = Pattern.compile("[\\n ]+|(?<w>[a-z]+)|(?<n>[0-9]+)|(?<s>[;<>=])|(?<x>[\\x00-\\xff])").matcher(text);
        while (m.find()) {
            if (m.group("w") != null) {
                list.add(new Token('w', m.group(), m.start()));
            } else if (m.group("n") != null) {
                list.add(new Token(m.group().length() > 4 ? 'x' : 'n', m.group(), m.start()));
            } else if (m.group("s") != null) {
                list.add(new Token('s', m.group(), m.start()));
            } else if (m.group("x") != null) {
                list.add(new Token('x', m.group(), m.start()));
            }
        }
        list.add(new Token('e', "", text.length()));
        return list;
    }

    static final class Reader {
        final List<Token> tokens;
        int at;
        State s;
        int steps;

        Reader(String text, State s) {
            tokens = tokens(text);
            this.s = s;
        }

        Token look() {
            return tokens.get(at);
        }

        Token next() throws Fault {
            Token t = look();
            if (t.kind == 'x') {
                throw new Fault(1, t.place);
            }
            at++;
            return t;
        }

        Token must(boolean is, Token t, int kind) throws Fault {
            if (!is) {
                throw new Fault(kind, t.place);
            }
            return t;
        }

        boolean sees(String word) {
            return look().text.equals(word) && look().kind != 'e';
        }

        void sign(String sign) throws Fault {
            Token t = next();
            must(t.kind == 's' && t.text.equals(sign), t, 2);
        }

        void word(String word) throws Fault {
            Token t = next();
            must(t.kind == 'w' && t.text.equals(word), t, 2);
        }

        int number(int least, int most) throws Fault {
            Token t = next();
            must(t.kind == 'n', t, 2);
            int n = Integer.parseInt(t.text);
            must(n >= least && n <= most, t, 4);
            return n;
        }

        Token name() throws Fault {
            Token t = next();
            return must(t.kind == 'w' && t.text.length() <= 8 && !KEPT.contains(t.text), t, 2);
        }

        String newName() throws Fault {
            Token t = name();
            must(!s.topics.contains(t.text) && monkNames().indexOf(t.text) < 0, t, 3);
            return t.text;
        }

        List<String> monkNames() {
            return s.monks.stream().map(m -> m.name).toList();
        }

        int monk() throws Fault {
            Token t = name();
            must(monkNames().contains(t.text), t, 3);
            return monkNames().indexOf(t.text);
        }

        int topic() throws Fault {
            Token t = name();
            must(s.topics.contains(t.text), t, 3);
            return s.topics.indexOf(t.text);
        }

        void house() throws Fault {
            Set<String> told = new HashSet<>();
            while (look().kind != 'e') {
                Token t = next();
                must(t.kind == 'w', t, 2);
                switch (t.text) {
                    case "turn" -> {
                        must(told.add("turn"), t, 5);
                        s.turn = number(1, 99);
                    }
                    case "odds" -> {
                        must(told.add("odds"), t, 5);
                        s.odds = number(0, 16);
                    }
                    case "topic" -> {
                        must(s.topics.size() < 6, t, 6);
                        String name = newName();
                        word("cost");
                        s.costs.add(number(0, 20));
                        s.topics.add(name);
                    }
                    case "monk" -> {
                        must(s.monks.size() < 7, t, 6);
                        s.monks.add(newMonk());
                    }
                    case "follows" -> {
                        int first = topic();
                        s.follows.add(List.of(first, topic()));
                    }
                    case "roster" -> {
                        must(s.roster.size() < 12, t, 6);
                        int m = monk();
                        s.roster.add(new int[] {m, topic()});
                    }
                    case "hears" -> {
                        int m = monk();
                        Token second = look();
                        int other = monk();
                        must(m != other, second, 5);
                        s.hears.add(Set.of(m, other));
                    }
                    default -> throw new Fault(2, t.place);
                }
                sign(";");
            }
        }

        Monk newMonk() throws Fault {
            Monk m = new Monk();
            m.name = newName();
            word("breath");
            m.breath = number(0, 99);
            m.most = m.breath;
            m.rest = 1;
            m.awake = true;
            if (sees("rest")) {
                next();
                m.rest = number(0, 9);
            }
            if (sees("asleep")) {
                next();
                m.awake = false;
            }
            return m;
        }

        List<Step> steps(int depth) throws Fault {
            List<Step> list = new ArrayList<>();
            while (true) {
                if (look().kind == 'e' && depth == 0) {
                    return list;
                }
                if (sees("end") && depth > 0) {
                    next();
                    sign(";");
                    return list;
                }
                list.add(step(depth));
            }
        }

        Step step(int depth) throws Fault {
            Token t = next();
            must(Set.of("minute", "change", "wake", "sleep", "any", "when", "loop", "stop").contains(t.text), t, 2);
            must(steps < 30, t, 6);
            steps++;
            boolean opens = t.text.equals("when") || t.text.equals("loop");
            must(!opens || depth < 3, t, 7);
            Step step = new Step();
            step.word = t.text;
            switch (t.text) {
                case "minute" -> step.number = number(1, 60);
                case "loop" -> step.number = number(1, 99);
                case "change", "wake", "sleep" -> step.who = monk();
                case "when" -> test(step);
                default -> {
                }
            }
            sign(";");
            if (opens) {
                step.within = steps(depth + 1);
            }
            return step;
        }

        void test(Step step) throws Fault {
            Token t = next();
            step.test = t.text;
            switch (t.text) {
                case "silent" -> step.who = monk();
                case "last" -> step.who = topic();
                case "breath" -> {
                    step.who = monk();
                    step.sign = compare();
                    step.number = number(0, 99);
                }
                case "paused" -> {
                    step.sign = compare();
                    step.number = number(0, 9999);
                }
                default -> throw new Fault(2, t.place);
            }
        }

        char compare() throws Fault {
            Token t = next();
            must(t.kind == 's' && !t.text.equals(";"), t, 2);
            return t.text.charAt(0);
        }
    }

    // ---- the object

    State s = new State();
    int status;
    BigInteger top = BigInteger.ZERO;
    BigInteger bottom = BigInteger.ONE;
    long[][] trays = new long[4][];
    int[] sorts = new int[4];
    StringBuilder tape = new StringBuilder();
    int[] fault = {-1, -1};
    int[] lived;
    List<State> marks = new ArrayList<>();

    /** One call: its answer as a long; a boolean counts 1 or 0. */
    long call(String name, long... a) {
        if (name.equals("feed")) {
            return feed(a);
        }
        try {
            long answer = answer(name, a);
            status = 0;
            return answer;
        } catch (Refused r) {
            status = r.status;
            boolean isBoolean = Set.of("tray", "write", "pour", "wake", "follow", "hear", "breathe", "price", "rule",
                    "coughs", "mean").contains(name);
            return isBoolean ? 0 : -1;
        }
    }

    private long feed(long[] a) {
        if (tape.length() + 20 > 900) {
            return -1;
        }
        for (long four : a) {
            for (int i = 3; i >= 0; i--) {
                tape.append((char) (four >> 8 * i & 255));
            }
        }
        return tape.length();
    }

    private long answer(String name, long[] a) {
        int x = a.length > 0 ? (int) a[0] : 0;
        int y = a.length > 1 ? (int) a[1] : 0;
        int z = a.length > 2 ? (int) a[2] : 0;
        switch (name) {
            case "tray":
                refuse(1, x < 0 || x > 3 || y < 0 || y > 3 || z < 0 || z > 60);
                trays[x] = new long[z];
                sorts[x] = y;
                return 1;
            case "write":
                place(x, y);
                put(x, y, a[2]);
                return 1;
            case "read":
                place(x, y);
                return trays[x][y];
            case "pour":
                return pour(x, y, z, (int) a[3], (int) a[4]);
            case "house":
                return house(x);
            case "days":
                return days(x);
            case "told":
                return told(x);
            case "topic":
                return topic(x, y);
            case "monk":
                return monk(x, y);
            case "entry":
                refuse(1, x < 0 || x >= s.roster.size() || y < 0 || y > 1);
                return s.roster.get(x)[y];
            case "silent":
                refuse(6, s.monks.isEmpty());
                return s.silent;
            case "last":
                refuse(6, s.last < 0);
                return s.last;
            default:
                return done(name, x, y, z);
        }
    }

    private long done(String name, int x, int y, int z) {
        switch (name) {
            case "minute":
                refuse(1, x < 1 || x > 99);
                refuse(4, s.minute + x > 9999);
                int before = s.pauses;
                s = s.in(x);
                return s.pauses - before;
            case "change":
                isMonk(x);
                refuse(7, s.silent == x);
                int was = s.silent;
                s.silent = x;
                return was;
            case "wake":
                isMonk(x);
                refuse(7, s.monks.get(x).awake == (y == 1));
                s.monks.get(x).awake = y == 1;
                return 1;
            case "follow":
                isTopic(x);
                isTopic(y);
                refuse(7, !(z == 1 ? s.follows.add(List.of(x, y)) : s.follows.remove(List.of(x, y))));
                return 1;
            case "hear":
                isMonk(x);
                isMonk(y);
                refuse(1, x == y);
                refuse(7, !(z == 1 ? s.hears.add(Set.of(x, y)) : s.hears.remove(Set.of(x, y))));
                return 1;
            case "enter":
                isMonk(x);
                isTopic(y);
                refuse(4, s.roster.size() == 12);
                s.roster.add(new int[] {x, y});
                return s.roster.size();
            case "strike":
                refuse(1, x < 0 || x >= s.roster.size());
                s.roster.remove(x);
                return s.roster.size();
            case "breathe":
                isMonk(x);
                refuse(1, y < 0 || y > s.monks.get(x).most);
                s.monks.get(x).breath = y;
                return 1;
            case "price":
                isTopic(x);
                refuse(1, y < 0 || y > 20);
                s.costs.set(x, y);
                return 1;
            case "rule":
                refuse(1, x != 3 && x != 4 || x == 3 && (y < 1 || y > 99) || x == 4 && (y < 0 || y > 16));
                if (x == 3) {
                    s.turn = y;
                } else {
                    s.odds = y;
                }
                return 1;
            default:
                return now(name, x, y, z);
        }
    }

    private long now(String name, int x, int y, int z) {
        int[] speech = s.speech();
        switch (name) {
            case "can":
                isMonk(x);
                isTopic(y);
                return s.can(x, y) ? 1 : 0;
            case "topics":
                isMonk(x);
                long topics = 0;
                for (int t = 0; t < s.topics.size(); t++) {
                    topics += s.can(x, t) ? 1 << t : 0;
                }
                return topics;
            case "speakers":
                isTopic(x);
                long monks = 0;
                for (int m = 0; m < s.monks.size(); m++) {
                    monks += s.can(m, x) ? 1 << m : 0;
                }
                return monks;
            case "speaker":
                refuse(6, speech == null);
                return speech[0];
            case "spoken":
                refuse(6, speech == null);
                return speech[1];
            case "unfair":
                int most = s.monks.stream().mapToInt(m -> m.kept).max().orElse(0);
                return most - s.monks.stream().mapToInt(m -> m.kept).min().orElse(0);
            default:
                return ahead(name, x, y, z);
        }
    }

    private long ahead(String name, int x, int y, int z) {
        switch (name) {
            case "speakerIn":
                refuse(1, x < 0 || x > 300);
                int[] speech = s.in(x).speech();
                refuse(6, speech == null);
                return speech[0];
            case "breathIn":
                isMonk(x);
                refuse(1, y < 0 || y > 300);
                return s.in(y).monks.get(x).breath;
            case "pauseIn":
                State then = s.copy();
                for (int i = 0; i <= 300; i++) {
                    if (!then.minute()) {
                        return i;
                    }
                }
                throw new Refused(6);
            case "pausesIn":
                refuse(1, x < 0 || x > 300);
                return s.in(x).pauses - s.pauses;
            case "turnIn":
                isMonk(x);
                State t = s.copy();
                for (int i = 0; i <= 999; i++) {
                    if (t.silent == x) {
                        return i;
                    }
                    t.minute();
                }
                throw new IllegalStateException();
            case "enough":
                isSet(x);
                refuse(1, y < 0 || y > 60);
                return enough(x, y) ? 1 : 0;
            case "fewest":
                return Long.bitCount(fewest(x));
            case "fewestSet":
                return fewest(x);
            case "shift":
                refuse(1, x < 1 || x > 3);
                return shift(x).get(0);
            case "shiftAt":
                refuse(1, x < 1 || x > 3 || y < 0 || y >= x || z < 0 || z > 1);
                return shift(x).get(1 + 2 * y + z);
            default:
                return talks(name, x, y, z);
        }
    }

    private long talks(String name, int x, int y, int z) {
        switch (name) {
            case "talk":
                isTopic(x);
                return talk(x).size();
            case "talkAt":
                isTopic(x);
                refuse(1, y < 0);
                refuse(6, y >= talk(x).size());
                return talk(x).get(y);
            case "ring":
                return ring().size();
            case "ringAt":
                refuse(1, x < 0);
                refuse(6, x >= ring().size());
                return ring().get(x);
            case "reach":
                isTopic(x);
                long set = 0;
                for (int t = 0; t < s.topics.size(); t++) {
                    set += reaches(x, t, s.topics.size()) ? 1 << t : 0;
                }
                return set;
            case "wins":
                isTopic(x);
                return best(List.of(x)) < 0 ? 0 : 1;
            case "best":
                isTopic(x);
                refuse(6, best(List.of(x)) < 0);
                return best(List.of(x));
            case "heard":
                return heard(x, y).size();
            case "sure":
                refuse(1, y < 0 || y > 4 || z < 0 || z >= y);
                List<List<Integer>> ways = heard(x, y);
                long different = ways.stream().map(w -> w.get(z)).distinct().count();
                refuse(6, different != 1);
                return ways.get(0).get(z);
            default:
                return nights(name, x, y);
        }
    }

    private long nights(String name, int x, int y) {
        switch (name) {
            case "couples":
                isSet(x);
                return couples(x);
            case "allRead":
                isSet(x);
                return couples(x) * 2 == Integer.bitCount(x) ? 1 : 0;
            case "coughs":
                refuse(1, x < 0 || x > 7);
                coughs(x);
                return 1;
            case "copyBreath":
                refuse(1, x < 0 || x > 3);
                refuse(2, trays[x] == null);
                refuse(3, trays[x].length < s.monks.size());
                for (int m = 0; m < s.monks.size(); m++) {
                    put(x, m, s.monks.get(m).breath);
                }
                return s.monks.size();
            case "live":
                refuse(1, x < 0 || x > 9999);
                refuse(6, s.days == null);
                Run run = new Run(s, x);
                lived = run.go();
                return run.steps;
            case "lived":
                refuse(1, x < 0 || x > 4);
                refuse(6, lived == null);
                return lived[x];
            case "mean":
                refuse(1, x < 0 || x > 9999 || y < 1 || y > 20 || x + y - 1 > 9999);
                refuse(6, s.days == null);
                long sum = 0;
                for (int i = 0; i < y; i++) {
                    State then = s.copy();
                    new Run(then, x + i).go();
                    sum += then.pauses;
                }
                tell(BigInteger.valueOf(sum), BigInteger.valueOf(y));
                return 1;
            case "mark":
                refuse(4, marks.size() == 3);
                marks.add(s.copy());
                return marks.size();
            case "undo":
                refuse(6, marks.isEmpty());
                s = marks.remove(marks.size() - 1);
                return marks.size();
            default:
                throw new IllegalArgumentException(name);
        }
    }

    private void isMonk(int m) {
        refuse(1, m < 0 || m >= s.monks.size());
    }

    private void isTopic(int t) {
        refuse(1, t < 0 || t >= s.topics.size());
    }

    private void isSet(int set) {
        refuse(1, set < 0 || set >= 1 << s.monks.size());
    }

    private void place(int tray, int place) {
        refuse(1, tray < 0 || tray > 3);
        refuse(2, trays[tray] == null);
        refuse(3, place < 0 || place >= trays[tray].length);
    }

    private void put(int tray, int place, long v) {
        int off = 64 - (8 << sorts[tray]);
        trays[tray][place] = v << off >> off;
    }

    private long pour(int from, long place, int to, long at, long many) {
        refuse(1, from < 0 || from > 3 || to < 0 || to > 3 || place < 0 || at < 0 || many < 0);
        refuse(2, trays[from] == null || trays[to] == null);
        refuse(8, sorts[from] != sorts[to]);
        refuse(3, place + many > trays[from].length || at + many > trays[to].length);
        long[] old = trays[from].clone();
        for (int i = 0; i < many; i++) {
            trays[to][(int) at + i] = old[(int) place + i];
        }
        return 1;
    }

    private long house(int n) {
        refuse(1, n < 0 || n > tape.length());
        String text = tape.substring(0, n);
        tape.setLength(0);
        State made = new State();
        try {
            new Reader(text, made).house();
        } catch (Fault f) {
            fault = new int[] {f.kind, f.place};
            throw new Refused(9);
        }
        fault = new int[] {0, -1};
        s = made;
        return s.monks.size();
    }

    private long days(int n) {
        refuse(1, n < 0 || n > tape.length() || n > 300);
        String text = tape.substring(0, n);
        tape.setLength(0);
        Reader reader = new Reader(text, s);
        try {
            s.days = reader.steps(0);
        } catch (Fault f) {
            fault = new int[] {f.kind, f.place};
            throw new Refused(9);
        }
        fault = new int[] {0, -1};
        return reader.steps;
    }

    private long told(int what) {
        refuse(1, what < 0 || what > 8);
        int awake = 0;
        for (int m = 0; m < s.monks.size(); m++) {
            awake += s.monks.get(m).awake ? 1 << m : 0;
        }
        return new int[] {s.topics.size(), s.monks.size(), s.roster.size(), s.turn, s.odds, s.minute, s.pauses,
            s.helped, awake}[what];
    }

    private long topic(int t, int what) {
        isTopic(t);
        refuse(1, what < 0 || what > 2);
        if (what == 0) {
            return s.costs.get(t);
        }
        long set = 0;
        for (int i = 0; i < s.topics.size(); i++) {
            set += s.follows.contains(what == 1 ? List.of(t, i) : List.of(i, t)) ? 1 << i : 0;
        }
        return set;
    }

    private long monk(int m, int what) {
        isMonk(m);
        refuse(1, what < 0 || what > 6);
        Monk monk = s.monks.get(m);
        int ears = 0;
        for (int i = 0; i < s.monks.size(); i++) {
            ears += i != m && s.hears.contains(Set.of(i, m)) ? 1 << i : 0;
        }
        return new int[] {monk.breath, monk.most, monk.rest, monk.awake ? 1 : 0, monk.spoke, monk.kept, ears}[what];
    }

    private boolean enough(int set, int minutes) {
        State then = s.copy();
        for (int m = 0; m < then.monks.size(); m++) {
            then.monks.get(m).awake = (set >> m & 1) == 1;
        }
        return then.in(minutes).pauses == s.pauses;
    }

    private long fewest(int minutes) {
        refuse(1, minutes < 0 || minutes > 60);
        int best = -1;
        for (int set = 0; set < 1 << s.monks.size(); set++) {
            if ((best < 0 || Integer.bitCount(set) < Integer.bitCount(best)) && enough(set, minutes)) {
                best = set;
            }
        }
        refuse(6, best < 0);
        return best;
    }

    static int compare(List<Integer> a, List<Integer> b) {
        for (int i = 0; i < Math.min(a.size(), b.size()); i++) {
            if (!a.get(i).equals(b.get(i))) {
                return a.get(i) - b.get(i);
            }
        }
        return a.size() - b.size();
    }

    private List<Integer> shift(int n) {
        List<List<Integer>> ways = new ArrayList<>();
        shifts(s.copy(), n, new ArrayList<>(), ways);
        refuse(6, ways.isEmpty());
        int best = ways.stream().mapToInt(w -> w.get(0)).max().getAsInt();
        return ways.stream().filter(w -> w.get(0) == best).min(Model::compare).get();
    }

    private void shifts(State now, int n, List<Integer> way, List<List<Integer>> ways) {
        if (n == 0) {
            List<Integer> whole = new ArrayList<>(way);
            whole.add(0, now.leastBreath());
            ways.add(whole);
            return;
        }
        for (int m = 0; m < now.monks.size(); m++) {
            for (int t = 0; t < now.topics.size(); t++) {
                if (now.can(m, t)) {
                    State then = now.copy();
                    then.said(m, t);
                    List<Integer> longer = new ArrayList<>(way);
                    longer.add(m);
                    longer.add(t);
                    shifts(then, n - 1, longer, ways);
                }
            }
        }
    }

    /** All rows of topics, none twice. */
    private List<List<Integer>> rows() {
        List<List<Integer>> rows = new ArrayList<>();
        for (int t = 0; t < s.topics.size(); t++) {
            rows.add(List.of(t));
        }
        for (int i = 0; i < rows.size(); i++) {
            List<Integer> row = rows.get(i);
            for (int t = 0; t < s.topics.size(); t++) {
                if (!row.contains(t) && s.follows.contains(List.of(row.get(row.size() - 1), t))) {
                    List<Integer> longer = new ArrayList<>(row);
                    longer.add(t);
                    rows.add(longer);
                }
            }
        }
        return rows;
    }

    private List<Integer> talk(int topic) {
        List<List<Integer>> rows = rows();
        rows.removeIf(r -> r.get(0) != topic);
        int most = rows.stream().mapToInt(List::size).max().getAsInt();
        return rows.stream().filter(r -> r.size() == most).min(Model::compare).get();
    }

    private List<Integer> ring() {
        List<List<Integer>> rows = rows();
        rows.removeIf(r -> !s.follows.contains(List.of(r.get(r.size() - 1), r.get(0))));
        refuse(6, rows.isEmpty());
        return rows.stream().min(Comparator.<List<Integer>>comparingInt(List::size).thenComparing(Model::compare)).get();
    }

    private boolean reaches(int from, int to, int left) {
        if (s.follows.contains(List.of(from, to))) {
            return true;
        }
        for (int t = 0; left > 1 && t < s.topics.size(); t++) {
            if (s.follows.contains(List.of(from, t)) && reaches(t, to, left - 1)) {
                return true;
            }
        }
        return false;
    }

    private int best(List<Integer> said) {
        for (int t = 0; t < s.topics.size(); t++) {
            if (!said.contains(t) && s.follows.contains(List.of(said.get(said.size() - 1), t))) {
                List<Integer> more = new ArrayList<>(said);
                more.add(t);
                if (best(more) < 0) {
                    return t;
                }
            }
        }
        return -1;
    }

    private List<List<Integer>> heard(int tray, int n) {
        refuse(1, tray < 0 || tray > 3 || n < 0 || n > 4);
        refuse(2, trays[tray] == null);
        refuse(3, trays[tray].length < n);
        for (int i = 0; i < n; i++) {
            refuse(5, trays[tray][i] < 0 || trays[tray][i] >= s.topics.size());
        }
        List<List<Integer>> ways = new ArrayList<>();
        int all = 1;
        for (int i = 0; i < n; i++) {
            all *= s.monks.size();
        }
        for (int code = 0; code < all; code++) {
            State then = s.copy();
            List<Integer> way = new ArrayList<>();
            int rest = code;
            for (int i = 0; i < n; i++) {
                int m = rest % s.monks.size();
                rest /= s.monks.size();
                int t = (int) trays[tray][i];
                if (!then.can(m, t)) {
                    way = null;
                    break;
                }
                then.said(m, t);
                way.add(m);
            }
            if (way != null) {
                ways.add(way);
            }
        }
        return ways;
    }

    private int couples(int set) {
        int most = 0;
        for (Set<Integer> pair : s.hears) {
            int two = pair.stream().mapToInt(m -> 1 << m).sum();
            if ((set & two) == two) {
                most = Math.max(most, 1 + couples(set - two));
            }
        }
        return most;
    }

    private void coughs(int k) {
        List<Integer> who = new ArrayList<>();
        for (int m = 0; m < s.monks.size(); m++) {
            if (s.monks.get(m).awake && m != s.silent) {
                who.add(m);
            }
        }
        long sum = 0;
        for (int set = 0; set < 1 << who.size(); set++) {
            if (Integer.bitCount(set) >= k) {
                long product = 1;
                for (int i = 0; i < who.size(); i++) {
                    product *= (set >> i & 1) == 1 ? s.odds : 16 - s.odds;
                }
                sum += product;
            }
        }
        tell(BigInteger.valueOf(sum), BigInteger.valueOf(16).pow(who.size()));
    }

    private void tell(BigInteger a, BigInteger b) {
        BigInteger shared = a.gcd(b);
        top = a.divide(shared);
        bottom = b.divide(shared);
    }

    /** One way through the days. */
    static final class Run {
        private static final class Halt extends RuntimeException {
            private static final long serialVersionUID = 1L;
        }

        final State s;
        long draw;
        int steps;
        int missed;
        int left;

        Run(State s, int seed) {
            this.s = s;
            draw = seed;
        }

        int[] go() {
            int[] before = {s.minute, s.pauses, s.helped};
            try {
                all(s.days);
            } catch (Halt h) {
                // It is over.
            }
            return new int[] {missed, s.minute - before[0], s.pauses - before[1], s.helped - before[2], left};
        }

        int draw(int by) {
            draw = (draw * 3119 + 11329) % 65536;
            return (int) (Math.floorDiv(draw, 8L) % by);
        }

        void all(List<Step> list) {
            for (Step step : list) {
                if (steps == 300) {
                    left = 1;
                    throw new Halt();
                }
                steps++;
                one(step);
            }
        }

        void one(Step step) {
            switch (step.word) {
                case "minute" -> {
                    boolean goes = s.minute + step.number <= 9999;
                    missed += goes ? 0 : 1;
                    for (int i = 0; goes && i < step.number; i++) {
                        s.minute();
                    }
                }
                case "change" -> {
                    missed += s.silent == step.who ? 1 : 0;
                    s.silent = step.who;
                }
                case "wake", "sleep" -> {
                    boolean is = step.word.equals("wake");
                    missed += s.monks.get(step.who).awake == is ? 1 : 0;
                    s.monks.get(step.who).awake = is;
                }
                case "any" -> {
                    if (s.monks.isEmpty()) {
                        missed++;
                    } else {
                        Monk m = s.monks.get(draw(s.monks.size()));
                        m.breath = Math.max(0, m.breath - draw(8));
                    }
                }
                case "when" -> {
                    if (holds(step)) {
                        all(step.within);
                    }
                }
                case "loop" -> {
                    for (int i = 0; i < step.number; i++) {
                        all(step.within);
                    }
                }
                default -> throw new Halt();
            }
        }

        boolean holds(Step step) {
            return switch (step.test) {
                case "silent" -> s.silent == step.who;
                case "last" -> s.last == step.who;
                case "breath" -> compares(s.monks.get(step.who).breath, step);
                default -> compares(s.pauses, step);
            };
        }

        boolean compares(int value, Step step) {
            int way = Integer.compare(value, step.number);
            return way == (step.sign == '<' ? -1 : step.sign == '>' ? 1 : 0);
        }
    }

    /** The state that every call may have changed, for a comparison. */
    String seen() {
        return status + " " + top + "/" + bottom + " " + Arrays.toString(fault);
    }
}
