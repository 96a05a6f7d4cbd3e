import java.util.Arrays;

/** A charterhouse in which one monk is silent for all, and the others must talk without a pause. */
public final class SilentTurn {
    /** None. */
    public static final int NONE = -1;

    // What a call's STATUS can be.
    private static final int FINE = 0;
    private static final int CANT_BE_ASKED = 1;
    private static final int TRAY_MISSING = 2;
    private static final int NO_PLACE = 3;
    private static final int TOO_MANY = 4;
    private static final int WRONG_IN_TRAY = 5;
    private static final int NONE_SUCH = 6;
    private static final int CANT_BE_DONE = 7;
    private static final int UNLIKE_SORTS = 8;
    private static final int FAULTY = 9;

    // What a text's FAULT can be.
    private static final int FAULT_NO_TOKEN = 1;
    private static final int FAULT_MISPLACED = 2;
    private static final int FAULT_NAME = 3;
    private static final int FAULT_NUMBER = 4;
    private static final int FAULT_AGAIN = 5;
    private static final int FAULT_CROWDED = 6;
    private static final int FAULT_DEEP = 7;

    // The limits of the document.
    private static final int TRAYS = 4;
    private static final int LONGEST_TRAY = 60;
    private static final int LONGEST_TAPE = 900;
    private static final int LONGEST_DAYS = 300;
    private static final int FEED_BYTES = 20;
    private static final int MOST_TOPICS = 6;
    private static final int MOST_MONKS = 7;
    private static final int MOST_ENTRIES = 12;
    private static final int MOST_COST = 20;
    private static final int MOST_BREATH = 99;
    private static final int MOST_REST = 9;
    private static final int MOST_TURN = 99;
    private static final int MOST_ODDS = 16;
    private static final int LAST_MINUTE = 9999;
    private static final int MINUTES_AT_ONCE = 99;
    private static final int MINUTES_AHEAD = 300;
    private static final int MINUTES_ENOUGH = 60;
    private static final int MINUTES_SHIFT = 3;
    private static final int MINUTES_HEARD = 4;
    private static final int MINUTES_STEP = 60;
    private static final int MOST_ROUNDS = 99;
    private static final int MOST_STEPS = 30;
    private static final int MOST_NESTED = 3;
    private static final int MOST_STEPS_DONE = 300;
    private static final int MOST_SEED = 9999;
    private static final int MOST_SEEDS = 20;
    private static final int MOST_MARKS = 3;
    private static final int LONGEST_NAME = 8;
    private static final int LONGEST_NUMBER = 4;

    // The words that are no NAMES: each number below is a word's place in KEYWORDS.
    private static final String KEYWORDS =
            "turn odds topic cost monk breath rest asleep follows roster hears minute change wake sleep any when silent last paused loop end stop ";
    private static final int KEYWORD_COUNT = 23;
    private static final int TURN = 0;
    private static final int ODDS = 1;
    private static final int TOPIC = 2;
    private static final int COST = 3;
    private static final int MONK = 4;
    private static final int BREATH = 5;
    private static final int REST = 6;
    private static final int ASLEEP = 7;
    private static final int FOLLOWS = 8;
    private static final int ROSTER = 9;
    private static final int HEARS = 10;
    private static final int MINUTE = 11;
    private static final int CHANGE = 12;
    private static final int WAKE = 13;
    private static final int SLEEP = 14;
    private static final int ANY = 15;
    private static final int WHEN = 16;
    private static final int SILENT = 17;
    private static final int LAST = 18;
    private static final int PAUSED = 19;
    private static final int LOOP = 20;
    private static final int END = 21;
    private static final int STOP = 22;

    // The kinds of TOKENS.
    private static final int TEXT_END = 0;
    private static final int WORD = 1;
    private static final int NUMBER = 2;
    private static final int SIGN = 3;
    private static final int NO_TOKEN = 4;

    private final Tray[] trays = new Tray[TRAYS];
    private final Tape tape = new Tape();
    private final HouseReader houseReader = new HouseReader(tape);
    private final DaysReader daysReader = new DaysReader(tape);
    private final House[] markedHouses = new House[MOST_MARKS];
    private final Days[] markedDays = new Days[MOST_MARKS];
    private final Ahead ahead = new Ahead();
    private final Talk rows = new Talk();
    private final Life latest = new Life();
    private final Life trial = new Life();
    private final long[] weights = new long[MOST_MONKS + 1];
    private House now = new House();
    private House spareHouse = new House();
    private Days plan = new Days();
    private Days spareDays = new Days();
    private int marks;
    private int code;
    private long above;
    private long below = 1;

    /** A HOUSE of no TOPICS, MONKS; no DAYS, MARKS; all TRAYS are MISSING; an empty tape. */
    public SilentTurn() {
        for (int i = 0; i < TRAYS; i++) {
            trays[i] = new Tray();
        }
        for (int i = 0; i < MOST_MARKS; i++) {
            markedHouses[i] = new House();
            markedDays[i] = new Days();
        }
    }

    /** STATUS of the latest call that has one. */
    public int status() {
        return code;
    }

    /** The top of the FRACTION told latest. */
    public long top() {
        return above;
    }

    /** The bottom of the FRACTION told latest. */
    public long bottom() {
        return below;
    }

    // ---- TRAYS

    /** A TRAY is a row of so many 0s. */
    public boolean tray(int tray, int sort, int many) {
        if (!isTray(tray) || !within(sort, 0, 3) || !within(many, 0, LONGEST_TRAY)) {
            return refuse(CANT_BE_ASKED);
        }
        trays[tray].lay(sort, many);
        return agree();
    }

    /** A number comes to a place of a TRAY, cut to its sort. */
    public boolean write(int tray, int place, long v) {
        int wrong = placeStatus(tray, place);
        if (wrong != FINE) {
            return refuse(wrong);
        }
        trays[tray].put(place, v);
        return agree();
    }

    /** The number in a place of a TRAY. */
    public long read(int tray, int place) {
        int wrong = placeStatus(tray, place);
        if (wrong != FINE) {
            return none(wrong);
        }
        code = FINE;
        return trays[tray].row[place];
    }

    /** So many numbers of a TRAY come to another one, or to its own, as they were. */
    public boolean pour(int from, int place, int to, int at, int many) {
        if (!isTray(from) || !isTray(to) || place < 0 || at < 0 || many < 0) {
            return refuse(CANT_BE_ASKED);
        }
        Tray source = trays[from];
        Tray goal = trays[to];
        if (!source.there || !goal.there) {
            return refuse(TRAY_MISSING);
        }
        if (source.sort != goal.sort) {
            return refuse(UNLIKE_SORTS);
        }
        if (!source.holds(place, many) || !goal.holds(at, many)) {
            return refuse(NO_PLACE);
        }
        System.arraycopy(source.row, place, goal.row, at, many);
        return agree();
    }

    // ---- texts

    /** Twenty bytes come behind those on the tape: how many it has. */
    public int feed(int a, int b, int c, int d, int e) {
        if (tape.fed + FEED_BYTES > LONGEST_TAPE) {
            return NONE;
        }
        tape.put(a);
        tape.put(b);
        tape.put(c);
        tape.put(d);
        tape.put(e);
        return tape.fed;
    }

    /** The first n bytes of the tape are the HOUSE: how many MONKS. */
    public int house(int n) {
        if (!within(n, 0, tape.fed)) {
            return none(CANT_BE_ASKED);
        }
        tape.begin(n);
        if (!houseReader.takes(spareHouse)) {
            return none(FAULTY);
        }
        House old = now;
        now = spareHouse;
        spareHouse = old;
        plan.clear();
        return give(now.monks.count);
    }

    /** The first n bytes of the tape are the DAYS: how many STEPS. */
    public int days(int n) {
        if (!within(n, 0, tape.fed) || n > LONGEST_DAYS) {
            return none(CANT_BE_ASKED);
        }
        tape.begin(n);
        if (!daysReader.takes(spareDays, now)) {
            return none(FAULTY);
        }
        Days old = plan;
        plan = spareDays;
        spareDays = old;
        return give(plan.steps);
    }

    /** Of the latest text that was read: its FAULT, or the FAULT's place. */
    public int fault(int what) {
        if (what == 0) {
            return tape.fault;
        }
        return what == 1 ? tape.faultPlace : NONE;
    }

    /** What there is in the HOUSE, and what became of it. */
    public int told(int what) {
        switch (what) {
            case 0:
                return give(now.topics.count);
            case 1:
                return give(now.monks.count);
            case 2:
                return give(now.entries);
            case 3:
                return give(now.turn);
            case 4:
                return give(now.odds);
            case 5:
                return give(now.minutes);
            case 6:
                return give(now.pauses);
            case 7:
                return give(now.helps);
            case 8:
                return give(now.monks.awake);
            default:
                return none(CANT_BE_ASKED);
        }
    }

    /** Of a TOPIC: COST, the set of TOPICS that may follow it, of those that it may follow. */
    public int topic(int topic, int what) {
        if (!isTopic(topic)) {
            return none(CANT_BE_ASKED);
        }
        switch (what) {
            case 0:
                return give(now.topics.costs[topic]);
            case 1:
                return give(now.topics.nexts[topic]);
            case 2:
                return give(now.topics.before(topic));
            default:
                return none(CANT_BE_ASKED);
        }
    }

    /** Of a MONK: BREATH, the most of it, REST, awake, MINUTES spoken, MINUTES silent, whom he hears. */
    public int monk(int monk, int what) {
        if (!isMonk(monk)) {
            return none(CANT_BE_ASKED);
        }
        switch (what) {
            case 0:
                return give(now.monks.breaths[monk]);
            case 1:
                return give(now.monks.mosts[monk]);
            case 2:
                return give(now.monks.rests[monk]);
            case 3:
                return give(truth(now.monks.isAwake(monk)));
            case 4:
                return give(now.monks.spoke[monk]);
            case 5:
                return give(now.monks.kept[monk]);
            case 6:
                return give(now.monks.ears[monk]);
            default:
                return none(CANT_BE_ASKED);
        }
    }

    /** Of an ENTRY of the ROSTER: the MONK, the TOPIC. */
    public int entry(int entry, int what) {
        if (!within(entry, 0, now.entries - 1) || !within(what, 0, 1)) {
            return none(CANT_BE_ASKED);
        }
        return give(what == 0 ? now.entryMonks[entry] : now.entryTopics[entry]);
    }

    /** The SILENT one. */
    public int silent() {
        return now.monks.count == 0 ? none(NONE_SUCH) : give(now.quiet);
    }

    /** The LAST TOPIC. */
    public int last() {
        return giveOrNone(now.lately);
    }

    // ---- what is done

    /** So many MINUTES go by: how many PAUSES there were in them. */
    public int minute(int many) {
        if (!within(many, 1, MINUTES_AT_ONCE)) {
            return none(CANT_BE_ASKED);
        }
        if (now.minutes + many > LAST_MINUTE) {
            return none(TOO_MANY);
        }
        return give(now.pass(many));
    }

    /** A MONK is the SILENT one from now on: who was it. */
    public int change(int monk) {
        if (!isMonk(monk)) {
            return none(CANT_BE_ASKED);
        }
        if (now.quiet == monk) {
            return none(CANT_BE_DONE);
        }
        int old = now.quiet;
        now.quiet = monk;
        return give(old);
    }

    /** A MONK is awake, or asleep. */
    public boolean wake(int monk, boolean is) {
        if (!isMonk(monk)) {
            return refuse(CANT_BE_ASKED);
        }
        if (now.monks.isAwake(monk) == is) {
            return refuse(CANT_BE_DONE);
        }
        now.monks.rouse(monk, is);
        return agree();
    }

    /** A TOPIC may follow another one, or may not. */
    public boolean follow(int topic, int next, boolean is) {
        if (!isTopic(topic) || !isTopic(next)) {
            return refuse(CANT_BE_ASKED);
        }
        if (has(now.topics.nexts[topic], next) == is) {
            return refuse(CANT_BE_DONE);
        }
        now.topics.nexts[topic] = with(now.topics.nexts[topic], next, is);
        return agree();
    }

    /** Two MONKS can hear each other, or can't. */
    public boolean hear(int monk, int other, boolean is) {
        if (!isMonk(monk) || !isMonk(other) || monk == other) {
            return refuse(CANT_BE_ASKED);
        }
        if (has(now.monks.ears[monk], other) == is) {
            return refuse(CANT_BE_DONE);
        }
        now.monks.lend(monk, other, is);
        return agree();
    }

    /** An ENTRY more, the last of the ROSTER: how many there are. */
    public int enter(int monk, int topic) {
        if (!isMonk(monk) || !isTopic(topic)) {
            return none(CANT_BE_ASKED);
        }
        if (now.entries >= MOST_ENTRIES) {
            return none(TOO_MANY);
        }
        now.addEntry(monk, topic);
        return give(now.entries);
    }

    /** An ENTRY is struck: how many there are. */
    public int strike(int entry) {
        if (!within(entry, 0, now.entries - 1)) {
            return none(CANT_BE_ASKED);
        }
        now.dropEntry(entry);
        return give(now.entries);
    }

    /** BREATH of a MONK is so much. */
    public boolean breathe(int monk, int much) {
        if (!isMonk(monk) || !within(much, 0, now.monks.mosts[monk])) {
            return refuse(CANT_BE_ASKED);
        }
        now.monks.breaths[monk] = much;
        return agree();
    }

    /** COST of a TOPIC from now on. */
    public boolean price(int topic, int cost) {
        if (!isTopic(topic) || !within(cost, 0, MOST_COST)) {
            return refuse(CANT_BE_ASKED);
        }
        now.topics.costs[topic] = cost;
        return agree();
    }

    /** TURN, ODDS from now on. */
    public boolean rule(int what, int much) {
        if (what == 3 && within(much, 1, MOST_TURN)) {
            now.turn = much;
            return agree();
        }
        if (what == 4 && within(much, 0, MOST_ODDS)) {
            now.odds = much;
            return agree();
        }
        return refuse(CANT_BE_ASKED);
    }

    // ---- what is so now

    /** 1 if a MONK CAN say a TOPIC, else 0. */
    public int can(int monk, int topic) {
        if (!isMonk(monk) || !isTopic(topic)) {
            return none(CANT_BE_ASKED);
        }
        return give(truth(now.canSay(monk, topic)));
    }

    /** The set of TOPICS that a MONK CAN say. */
    public int topics(int monk) {
        return isMonk(monk) ? give(now.sayable(monk)) : none(CANT_BE_ASKED);
    }

    /** The set of MONKS who CAN say a TOPIC. */
    public int speakers(int topic) {
        if (!isTopic(topic)) {
            return none(CANT_BE_ASKED);
        }
        int set = 0;
        for (int monk = 0; monk < now.monks.count; monk++) {
            set = with(set, monk, now.canSay(monk, topic));
        }
        return give(set);
    }

    /** The SPEAKER of the MINUTE that begins. */
    public int speaker() {
        return giveOrNone(monkOf(now.speech()));
    }

    /** The TOPIC of the MINUTE that begins. */
    public int spoken() {
        return giveOrNone(topicOf(now.speech()));
    }

    // ---- what will be

    /** The SPEAKER of the MINUTE in so many MINUTES. */
    public int speakerIn(int minutes) {
        if (!within(minutes, 0, MINUTES_AHEAD)) {
            return none(CANT_BE_ASKED);
        }
        return giveOrNone(monkOf(ahead.in(now, minutes).speech()));
    }

    /** BREATH of a MONK in so many MINUTES. */
    public int breathIn(int monk, int minutes) {
        if (!isMonk(monk) || !within(minutes, 0, MINUTES_AHEAD)) {
            return none(CANT_BE_ASKED);
        }
        return give(ahead.in(now, minutes).monks.breaths[monk]);
    }

    /** In how many MINUTES the first PAUSE is. */
    public int pauseIn() {
        return giveOrNone(ahead.firstPause(now, MINUTES_AHEAD + 1));
    }

    /** How many PAUSES there are in so many MINUTES. */
    public int pausesIn(int minutes) {
        if (!within(minutes, 0, MINUTES_AHEAD)) {
            return none(CANT_BE_ASKED);
        }
        return give(ahead.in(now, minutes).pauses - now.pauses);
    }

    /** In how many MINUTES a MONK is the SILENT one first. */
    public int turnIn(int monk) {
        return isMonk(monk) ? give(now.untilSilent(monk)) : none(CANT_BE_ASKED);
    }

    /** How many more MINUTES who was the SILENT one the most was it than who was it the least. */
    public int unfair() {
        return give(now.monks.keptApart());
    }

    /** 1 if a set is ENOUGH for so many MINUTES, else 0. */
    public int enough(int monks, int minutes) {
        if (!isSet(monks) || !within(minutes, 0, MINUTES_ENOUGH)) {
            return none(CANT_BE_ASKED);
        }
        return give(truth(ahead.suffices(now, monks, minutes)));
    }

    /** FEWEST: how many. */
    public int fewest(int minutes) {
        if (!within(minutes, 0, MINUTES_ENOUGH)) {
            return none(CANT_BE_ASKED);
        }
        int set = ahead.smallest(now, minutes);
        return set == NONE ? none(NONE_SUCH) : give(Integer.bitCount(set));
    }

    /** FEWEST: the set. */
    public int fewestSet(int minutes) {
        if (!within(minutes, 0, MINUTES_ENOUGH)) {
            return none(CANT_BE_ASKED);
        }
        return giveOrNone(ahead.smallest(now, minutes));
    }

    /** SHIFT: the least BREATH in the end. */
    public int shift(int n) {
        if (!within(n, 1, MINUTES_SHIFT)) {
            return none(CANT_BE_ASKED);
        }
        return giveOrNone(ahead.easiest(now, n));
    }

    /** SHIFT: the MONK, the TOPIC of the k-th MINUTE. */
    public int shiftAt(int n, int k, int what) {
        if (!within(n, 1, MINUTES_SHIFT) || !within(k, 0, n - 1) || !within(what, 0, 1)) {
            return none(CANT_BE_ASKED);
        }
        if (ahead.easiest(now, n) == NONE) {
            return none(NONE_SUCH);
        }
        int speech = ahead.bestWay[k];
        return give(what == 0 ? monkOf(speech) : topicOf(speech));
    }

    // ---- topics

    /** TALK: how many TOPICS. */
    public int talk(int topic) {
        return isTopic(topic) ? give(rows.longest(now.topics, topic)) : none(CANT_BE_ASKED);
    }

    /** TALK: the k-th TOPIC. */
    public int talkAt(int topic, int k) {
        if (!isTopic(topic) || k < 0) {
            return none(CANT_BE_ASKED);
        }
        return k < rows.longest(now.topics, topic) ? give(rows.found[k]) : none(NONE_SUCH);
    }

    /** RING: how many TOPICS. */
    public int ring() {
        return giveOrNone(rows.shortestRing(now.topics));
    }

    /** RING: the k-th TOPIC. */
    public int ringAt(int k) {
        if (k < 0) {
            return none(CANT_BE_ASKED);
        }
        return k < rows.shortestRing(now.topics) ? give(rows.row[k]) : none(NONE_SUCH);
    }

    /** The set of TOPICS to which talk can come from one. */
    public int reach(int topic) {
        return isTopic(topic) ? give(Talk.behind(now.topics, topic)) : none(CANT_BE_ASKED);
    }

    /** 1 if who is to say a TOPIC behind one wins the GAME, else 0. */
    public int wins(int topic) {
        if (!isTopic(topic)) {
            return none(CANT_BE_ASKED);
        }
        return give(truth(Talk.winner(now.topics, topic, 1 << topic) != NONE));
    }

    /** BEST: the least TOPIC that wins the GAME. */
    public int best(int topic) {
        return isTopic(topic) ? giveOrNone(Talk.winner(now.topics, topic, 1 << topic)) : none(CANT_BE_ASKED);
    }

    // ---- what was heard

    /** HEARD: in how many ways. */
    public int heard(int tray, int n) {
        if (!within(n, 0, MINUTES_HEARD)) {
            return none(CANT_BE_ASKED);
        }
        int wrong = heardStatus(tray, n);
        return wrong == FINE ? give(ahead.ways(now, trays[tray], n, NONE)) : none(wrong);
    }

    /** SURE: who said the k-th in all ways. */
    public int sure(int tray, int n, int k) {
        if (!within(n, 0, MINUTES_HEARD) || !within(k, 0, n - 1)) {
            return none(CANT_BE_ASKED);
        }
        int wrong = heardStatus(tray, n);
        if (wrong != FINE) {
            return none(wrong);
        }
        ahead.ways(now, trays[tray], n, k);
        return giveOrNone(onlyOneOf(ahead.suspects));
    }

    // ---- nights

    /** COUPLES: how many. */
    public int couples(int monks) {
        return isSet(monks) ? give(Monks.pairs(now.monks.ears, monks)) : none(CANT_BE_ASKED);
    }

    /** 1 if all of a set can read by couples, else 0. */
    public int allRead(int monks) {
        if (!isSet(monks)) {
            return none(CANT_BE_ASKED);
        }
        return give(truth(2 * Monks.pairs(now.monks.ears, monks) == Integer.bitCount(monks)));
    }

    /** The FRACTION is COUGHS of k. */
    public boolean coughs(int k) {
        if (!within(k, 0, MOST_MONKS)) {
            return refuse(CANT_BE_ASKED);
        }
        weighCoughs();
        long all = 0;
        long enough = 0;
        for (int i = 0; i <= MOST_MONKS; i++) {
            all += weights[i];
            enough += i >= k ? weights[i] : 0;
        }
        tellFraction(enough, all);
        return agree();
    }

    /** BREATH of all MONKS comes to a TRAY: how many. */
    public int copyBreath(int tray) {
        if (!isTray(tray)) {
            return none(CANT_BE_ASKED);
        }
        if (!trays[tray].there) {
            return none(TRAY_MISSING);
        }
        if (!trays[tray].holds(0, now.monks.count)) {
            return none(NO_PLACE);
        }
        for (int monk = 0; monk < now.monks.count; monk++) {
            trays[tray].put(monk, now.monks.breaths[monk]);
        }
        return give(now.monks.count);
    }

    // ---- DAYS

    /** LIVED: how many STEPS were done. */
    public int live(int seed) {
        if (!within(seed, 0, MOST_SEED)) {
            return none(CANT_BE_ASKED);
        }
        if (!plan.there) {
            return none(NONE_SUCH);
        }
        latest.run(now, plan, seed);
        return give(latest.steps);
    }

    /** Of live() latest: MISSED, MINUTES, PAUSES, how often somebody HELPED, 1 if a STEP was left. */
    public int lived(int what) {
        if (!within(what, 0, 4)) {
            return none(CANT_BE_ASKED);
        }
        if (!latest.there) {
            return none(NONE_SUCH);
        }
        switch (what) {
            case 0:
                return give(latest.missed);
            case 1:
                return give(latest.minutes);
            case 2:
                return give(latest.pauses);
            case 3:
                return give(latest.helps);
            default:
                return give(truth(latest.left));
        }
    }

    /** The FRACTION is the mean of how many PAUSES there were behind the DAYS, by so many seeds. */
    public boolean mean(int seed, int many) {
        if (!within(seed, 0, MOST_SEED) || !within(many, 1, MOST_SEEDS) || seed + many - 1 > MOST_SEED) {
            return refuse(CANT_BE_ASKED);
        }
        if (!plan.there) {
            return refuse(NONE_SUCH);
        }
        long sum = 0;
        for (int i = 0; i < many; i++) {
            House house = ahead.in(now, 0);
            trial.run(house, plan, seed + i);
            sum += house.pauses;
        }
        tellFraction(sum, many);
        return agree();
    }

    // ---- MARKS

    /** A MARK more: how many there are. */
    public int mark() {
        if (marks >= MOST_MARKS) {
            return none(TOO_MANY);
        }
        markedHouses[marks].copy(now);
        markedDays[marks].copy(plan);
        marks++;
        return give(marks);
    }

    /** All is taken back to the latest MARK: how many there are left. */
    public int undo() {
        if (marks <= 0) {
            return none(NONE_SUCH);
        }
        marks--;
        now.copy(markedHouses[marks]);
        plan.copy(markedDays[marks]);
        return give(marks);
    }

    // ---- what the calls share

    private int give(int answer) {
        code = FINE;
        return answer;
    }

    private int giveOrNone(int answer) {
        return answer == NONE ? none(NONE_SUCH) : give(answer);
    }

    private int none(int wrong) {
        code = wrong;
        return NONE;
    }

    private boolean agree() {
        code = FINE;
        return true;
    }

    private boolean refuse(int wrong) {
        code = wrong;
        return false;
    }

    private boolean isTray(int tray) {
        return within(tray, 0, TRAYS - 1);
    }

    private boolean isTopic(int topic) {
        return within(topic, 0, now.topics.count - 1);
    }

    private boolean isMonk(int monk) {
        return within(monk, 0, now.monks.count - 1);
    }

    private boolean isSet(int monks) {
        return within(monks, 0, (1 << now.monks.count) - 1);
    }

    private int placeStatus(int tray, int place) {
        if (!isTray(tray)) {
            return CANT_BE_ASKED;
        }
        if (!trays[tray].there) {
            return TRAY_MISSING;
        }
        return within(place, 0, trays[tray].many - 1) ? FINE : NO_PLACE;
    }

    private int heardStatus(int tray, int n) {
        if (!isTray(tray)) {
            return CANT_BE_ASKED;
        }
        if (!trays[tray].there) {
            return TRAY_MISSING;
        }
        if (!trays[tray].holds(0, n)) {
            return NO_PLACE;
        }
        for (int i = 0; i < n; i++) {
            long said = trays[tray].row[i];
            if (said < 0 || said >= now.topics.count) {
                return WRONG_IN_TRAY;
            }
        }
        return FINE;
    }

    // Of 16 to the power of all who may cough, so many cases have just i coughs: all is whole numbers.
    private void weighCoughs() {
        Arrays.fill(weights, 0);
        weights[0] = 1;
        for (int monk = 0; monk < now.monks.count; monk++) {
            if (!now.monks.isAwake(monk) || monk == now.quiet) {
                continue;
            }
            for (int i = MOST_MONKS; i > 0; i--) {
                weights[i] = weights[i] * (MOST_ODDS - now.odds) + weights[i - 1] * now.odds;
            }
            weights[0] *= MOST_ODDS - now.odds;
        }
    }

    private void tellFraction(long top, long bottom) {
        long shared = commonDivisor(top, bottom);
        if (shared > 0) {
            above = top / shared;
            below = bottom / shared;
        }
    }

    private static long commonDivisor(long a, long b) {
        long high = a;
        long low = b;
        // Euclid's rests more than halve in every second round: 200 rounds are more than any long needs.
        for (int i = 0; i < 200 && low != 0; i++) {
            long rest = high % low;
            high = low;
            low = rest;
        }
        return high;
    }

    private static boolean within(int number, int least, int most) {
        return number >= least && number <= most;
    }

    private static int truth(boolean is) {
        return is ? 1 : 0;
    }

    private static boolean has(int set, int member) {
        return (set >> member & 1) == 1;
    }

    private static int with(int set, int member, boolean is) {
        return is ? set | 1 << member : set & ~(1 << member);
    }

    private static int leastOf(int set) {
        for (int i = 0; i < MOST_MONKS; i++) {
            if (has(set, i)) {
                return i;
            }
        }
        return NONE;
    }

    private static int onlyOneOf(int set) {
        return Integer.bitCount(set) == 1 ? leastOf(set) : NONE;
    }

    // A MONK with the TOPIC that he says is one number, so that a MINUTE's choice is one answer.
    private static int speechOf(int monk, int topic) {
        return monk * MOST_TOPICS + topic;
    }

    private static int monkOf(int speech) {
        return speech < 0 ? NONE : speech / MOST_TOPICS;
    }

    private static int topicOf(int speech) {
        return speech < 0 ? NONE : speech % MOST_TOPICS;
    }

    /** A row of numbers of one sort, or MISSING. */
    private static final class Tray {
        final long[] row = new long[LONGEST_TRAY];
        boolean there;
        int sort;
        int many;

        void lay(int newSort, int newMany) {
            Arrays.fill(row, 0);
            sort = newSort;
            many = newMany;
            there = true;
        }

        // Asked without a sum, which could go beyond an int.
        boolean holds(int place, int count) {
            return place <= many && count <= many - place;
        }

        void put(int place, long v) {
            row[place] = cut(v);
        }

        private long cut(long v) {
            switch (sort) {
                case 0:
                    return (byte) v;
                case 1:
                    return (short) v;
                case 2:
                    return (int) v;
                default:
                    return v;
            }
        }
    }

    /** The TOPICS of a HOUSE. */
    private static final class Topics {
        final long[] names = new long[MOST_TOPICS];
        final int[] costs = new int[MOST_TOPICS];
        final int[] nexts = new int[MOST_TOPICS];
        int count;

        void copy(Topics from) {
            System.arraycopy(from.names, 0, names, 0, MOST_TOPICS);
            System.arraycopy(from.costs, 0, costs, 0, MOST_TOPICS);
            System.arraycopy(from.nexts, 0, nexts, 0, MOST_TOPICS);
            count = from.count;
        }

        void add(long name, int cost) {
            if (count >= MOST_TOPICS) {
                return;
            }
            names[count] = name;
            costs[count] = cost;
            nexts[count] = 0;
            count++;
        }

        int find(long name) {
            for (int i = 0; i < count; i++) {
                if (names[i] == name) {
                    return i;
                }
            }
            return NONE;
        }

        int before(int topic) {
            int set = 0;
            for (int i = 0; i < count; i++) {
                set = with(set, i, has(nexts[i], topic));
            }
            return set;
        }

        // Those of a set that so much BREATH is enough for.
        int costingAtMost(int set, int breath) {
            int enough = 0;
            for (int i = 0; i < count; i++) {
                if (costs[i] <= breath) {
                    enough |= set & 1 << i;
                }
            }
            return enough;
        }

        int firstCosting(int set, int breath) {
            for (int i = 0; i < count; i++) {
                if (costs[i] <= breath && has(set, i)) {
                    return i;
                }
            }
            return NONE;
        }
    }

    /** The MONKS of a HOUSE. */
    private static final class Monks {
        final long[] names = new long[MOST_MONKS];
        final int[] breaths = new int[MOST_MONKS];
        final int[] mosts = new int[MOST_MONKS];
        final int[] rests = new int[MOST_MONKS];
        final int[] spoke = new int[MOST_MONKS];
        final int[] kept = new int[MOST_MONKS];
        final int[] ears = new int[MOST_MONKS];
        int awake;
        int count;

        void clear() {
            count = 0;
            awake = 0;
        }

        void copy(Monks from) {
            System.arraycopy(from.names, 0, names, 0, MOST_MONKS);
            System.arraycopy(from.breaths, 0, breaths, 0, MOST_MONKS);
            System.arraycopy(from.mosts, 0, mosts, 0, MOST_MONKS);
            System.arraycopy(from.rests, 0, rests, 0, MOST_MONKS);
            System.arraycopy(from.spoke, 0, spoke, 0, MOST_MONKS);
            System.arraycopy(from.kept, 0, kept, 0, MOST_MONKS);
            System.arraycopy(from.ears, 0, ears, 0, MOST_MONKS);
            awake = from.awake;
            count = from.count;
        }

        void add(long name, int breath, int rest, boolean isAwake) {
            if (count >= MOST_MONKS) {
                return;
            }
            names[count] = name;
            breaths[count] = breath;
            mosts[count] = breath;
            rests[count] = rest;
            spoke[count] = 0;
            kept[count] = 0;
            ears[count] = 0;
            rouse(count, isAwake);
            count++;
        }

        int find(long name) {
            for (int i = 0; i < count; i++) {
                if (names[i] == name) {
                    return i;
                }
            }
            return NONE;
        }

        boolean isAwake(int monk) {
            return has(awake, monk);
        }

        void rouse(int monk, boolean is) {
            awake = with(awake, monk, is);
        }

        void lend(int monk, int other, boolean is) {
            ears[monk] = with(ears[monk], other, is);
            ears[other] = with(ears[other], monk, is);
        }

        int rested(int monk, int times) {
            int breath = breaths[monk] + rests[monk] * times;
            return breath < mosts[monk] ? breath : mosts[monk];
        }

        // The least BREATH if all but one rest so often; he may be NONE.
        int leastRested(int but, int times) {
            int least = MOST_BREATH;
            for (int i = 0; i < count; i++) {
                if (i != but) {
                    least = Math.min(least, rested(i, times));
                }
            }
            return least;
        }

        int keptApart() {
            if (count == 0) {
                return 0;
            }
            int least = kept[0];
            int most = kept[0];
            for (int i = 1; i < count; i++) {
                least = Math.min(least, kept[i]);
                most = Math.max(most, kept[i]);
            }
            return most - least;
        }

        // The first of the set reads with nobody, or with one of those whom he hears.
        private static int pairs(int[] ears, int set) {
            int first = leastOf(set);
            if (first == NONE) {
                return 0;
            }
            int others = with(set, first, false);
            int most = pairs(ears, others);
            for (int i = first + 1; i < MOST_MONKS; i++) {
                if (has(others & ears[first], i)) {
                    most = Math.max(most, 1 + pairs(ears, with(others, i, false)));
                }
            }
            return most;
        }
    }

    /** A HOUSE with all that became of it. */
    private static final class House {
        final Topics topics = new Topics();
        final Monks monks = new Monks();
        final int[] entryMonks = new int[MOST_ENTRIES];
        final int[] entryTopics = new int[MOST_ENTRIES];
        int entries;
        int turn = 10;
        int odds = 1;
        int minutes;
        int pauses;
        int helps;
        int quiet;
        int lately = NONE;

        void clear() {
            topics.count = 0;
            monks.clear();
            entries = 0;
            turn = 10;
            odds = 1;
            minutes = 0;
            pauses = 0;
            helps = 0;
            quiet = 0;
            lately = NONE;
        }

        void copy(House from) {
            topics.copy(from.topics);
            monks.copy(from.monks);
            System.arraycopy(from.entryMonks, 0, entryMonks, 0, MOST_ENTRIES);
            System.arraycopy(from.entryTopics, 0, entryTopics, 0, MOST_ENTRIES);
            entries = from.entries;
            turn = from.turn;
            odds = from.odds;
            minutes = from.minutes;
            pauses = from.pauses;
            helps = from.helps;
            quiet = from.quiet;
            lately = from.lately;
        }

        void addEntry(int monk, int topic) {
            if (entries >= MOST_ENTRIES) {
                return;
            }
            entryMonks[entries] = monk;
            entryTopics[entries] = topic;
            entries++;
        }

        void dropEntry(int entry) {
            for (int i = entry + 1; i < entries; i++) {
                entryMonks[i - 1] = entryMonks[i];
                entryTopics[i - 1] = entryTopics[i];
            }
            entries--;
        }

        private boolean mayTalk(int monk) {
            return monk != quiet && (monks.awake >> monk & 1) == 1;
        }

        // The set of TOPICS that may follow the LAST one.
        private int open() {
            return lately == NONE ? (1 << topics.count) - 1 : topics.nexts[lately];
        }

        boolean canSay(int monk, int topic) {
            return mayTalk(monk) && topics.costs[topic] <= monks.breaths[monk] && has(open(), topic);
        }

        // The set of TOPICS that a MONK CAN say.
        int sayable(int monk) {
            return mayTalk(monk) ? topics.costingAtMost(open(), monks.breaths[monk]) : 0;
        }

        int speech() {
            int rostered = rosteredSpeech();
            return rostered == NONE ? helpingSpeech() : rostered;
        }

        private int rosteredSpeech() {
            if (entries <= 0) {
                return NONE;
            }
            int place = minutes % entries;
            int monk = entryMonks[place];
            int topic = entryTopics[place];
            return canSay(monk, topic) ? speechOf(monk, topic) : NONE;
        }

        private int helpingSpeech() {
            for (int monk = 0; monk < monks.count; monk++) {
                int topic = mayTalk(monk) ? topics.firstCosting(open(), monks.breaths[monk]) : NONE;
                if (topic != NONE) {
                    return speechOf(monk, topic);
                }
            }
            return NONE;
        }

        // Answers how many PAUSES there were.
        int pass(int many) {
            int before = pauses;
            for (int i = 0; i < many; i++) {
                passOne();
            }
            return pauses - before;
        }

        // Answers whether somebody spoke.
        boolean passOne() {
            int speech = rosteredSpeech();
            if (speech == NONE) {
                speech = helpingSpeech();
                if (speech == NONE) {
                    pauses++;
                } else {
                    helps++;
                }
            }
            goBy(monkOf(speech), topicOf(speech));
            return speech != NONE;
        }

        // What a MINUTE does once its SPEAKER and TOPIC stand; both are NONE in a PAUSE.
        void goBy(int speaker, int topic) {
            for (int i = 0; i < monks.count; i++) {
                if (i != speaker) {
                    monks.breaths[i] = monks.rested(i, 1);
                } else if (topic >= 0) {
                    monks.breaths[i] -= topics.costs[topic];
                    monks.spoke[i]++;
                }
            }
            lately = topic;
            minutes++;
            if (monks.count <= 0) {
                return;
            }
            monks.kept[quiet]++;
            if (turn > 0 && minutes % turn == 0) {
                quiet = (quiet + 1) % monks.count;
            }
        }

        int untilSilent(int monk) {
            if (monks.count <= 0 || turn <= 0 || monk == quiet) {
                return 0;
            }
            int turnsAhead = Math.floorMod(monk - quiet, monks.count);
            return turn - minutes % turn + (turnsAhead - 1) * turn;
        }
    }

    /** The STEPS of the DAYS, and their ends, one behind the other. */
    private static final class Days {
        private static final int ROOM = 2 * MOST_STEPS;
        final int[] kinds = new int[ROOM];
        final int[] whos = new int[ROOM];
        final int[] muches = new int[ROOM];
        final int[] tests = new int[ROOM];
        final int[] signs = new int[ROOM];
        // Where the end of a when or loop stands, and for an end where that begins.
        final int[] mates = new int[ROOM];
        int size;
        int steps;
        boolean there;

        void clear() {
            size = 0;
            steps = 0;
            there = false;
        }

        void copy(Days from) {
            System.arraycopy(from.kinds, 0, kinds, 0, from.size);
            System.arraycopy(from.whos, 0, whos, 0, from.size);
            System.arraycopy(from.muches, 0, muches, 0, from.size);
            System.arraycopy(from.tests, 0, tests, 0, from.size);
            System.arraycopy(from.signs, 0, signs, 0, from.size);
            System.arraycopy(from.mates, 0, mates, 0, from.size);
            size = from.size;
            steps = from.steps;
            there = from.there;
        }

        // Answers where the new one stands, or NONE if there is no room.
        int add(int kind) {
            if (size >= ROOM) {
                return NONE;
            }
            kinds[size] = kind;
            whos[size] = NONE;
            muches[size] = 0;
            tests[size] = NONE;
            signs[size] = NONE;
            mates[size] = NONE;
            size++;
            return size - 1;
        }
    }

    /** The tape, read TOKEN by TOKEN; it knows the FAULT of the text that was read latest. */
    private static final class Tape {
        // So many bits hold a letter, none of which is 0: no two WORDS of a NAME's length are the same number.
        private static final int LETTER_BITS = 5;
        final int[] bytes = new int[LONGEST_TAPE];
        final long[] keywords = new long[KEYWORD_COUNT];
        int fed;
        int fault = NONE;
        int faultPlace = NONE;
        // The TOKEN that is looked at; the name of a WORD that is too long for a NAME is 0.
        int kind;
        int place;
        int word;
        int number;
        long name;
        private int length;
        private int next;

        Tape() {
            int at = 0;
            for (int i = 0; i < KEYWORDS.length() && at < KEYWORD_COUNT; i++) {
                int letter = KEYWORDS.charAt(i);
                if (letter == ' ') {
                    at++;
                } else {
                    keywords[at] = keywords[at] << LETTER_BITS | letter - 'a' + 1;
                }
            }
        }

        void put(int four) {
            if (fed + 4 > LONGEST_TAPE) {
                return;
            }
            for (int shift = 24; shift >= 0; shift -= 8) {
                bytes[fed] = four >>> shift & 255;
                fed++;
            }
        }

        // The tape is empty from here on, for whoever feeds it; the text is read first.
        void begin(int n) {
            length = n;
            next = 0;
            fed = 0;
            fault = 0;
            faultPlace = NONE;
            advance();
        }

        void advance() {
            while (next < length && (bytes[next] == 10 || bytes[next] == 32)) {
                next++;
            }
            place = next;
            word = NONE;
            name = 0;
            number = 0;
            if (next >= length) {
                kind = TEXT_END;
            } else if (bytes[next] >= 'a' && bytes[next] <= 'z') {
                readWord();
            } else if (bytes[next] >= '0' && bytes[next] <= '9') {
                readNumber();
            } else {
                readSign();
            }
        }

        private void readWord() {
            kind = WORD;
            long spelling = 0;
            while (next < length && bytes[next] >= 'a' && bytes[next] <= 'z') {
                spelling = spelling << LETTER_BITS | bytes[next] - 'a' + 1;
                next++;
            }
            if (next - place > LONGEST_NAME) {
                return;
            }
            name = spelling;
            for (int i = 0; i < KEYWORD_COUNT; i++) {
                if (keywords[i] == name) {
                    word = i;
                }
            }
        }

        private void readNumber() {
            while (next < length && bytes[next] >= '0' && bytes[next] <= '9') {
                number = number * 10 + bytes[next] - '0';
                next++;
            }
            kind = next - place > LONGEST_NUMBER ? NO_TOKEN : NUMBER;
        }

        private void readSign() {
            int sign = bytes[next];
            boolean is = sign == ';' || sign == '<' || sign == '>' || sign == '=';
            kind = is ? SIGN : NO_TOKEN;
            number = sign;
            next++;
        }

        // What is no TOKEN at all is a FAULT of the least kind, whatever should have stood there.
        boolean fail(int why) {
            fault = kind == NO_TOKEN ? FAULT_NO_TOKEN : why;
            faultPlace = place;
            return false;
        }

        boolean isName() {
            return kind == WORD && name != 0 && word == NONE;
        }

        boolean skipWord(int wanted) {
            if (word != wanted) {
                return fail(FAULT_MISPLACED);
            }
            advance();
            return true;
        }

        boolean skipSemicolon() {
            if (kind != SIGN || number != ';') {
                return fail(FAULT_MISPLACED);
            }
            advance();
            return true;
        }

        // The TOKEN must be the NAME of what was found by it, and is passed.
        boolean skipName(int found) {
            if (!isName()) {
                return fail(FAULT_MISPLACED);
            }
            if (found == NONE) {
                return fail(FAULT_NAME);
            }
            advance();
            return true;
        }

        // The TOKEN must be one that COMPARES, and is passed: which one; NONE if it is a FAULT.
        int takeCompare() {
            if (kind != SIGN || number == ';') {
                fail(FAULT_MISPLACED);
                return NONE;
            }
            int taken = number;
            advance();
            return taken;
        }

        // The TOKEN must be such a NUMBER, and is passed: which one; NONE if it is a FAULT.
        int takeNumber(int least, int most) {
            if (kind != NUMBER || !within(number, least, most)) {
                fail(kind == NUMBER ? FAULT_NUMBER : FAULT_MISPLACED);
                return NONE;
            }
            int taken = number;
            advance();
            return taken;
        }
    }

    /** Reads a HOUSE from the tape. */
    private static final class HouseReader {
        private final Tape tape;
        private House house;
        private boolean turnTold;
        private boolean oddsTold;

        HouseReader(Tape tape) {
            this.tape = tape;
        }

        boolean takes(House into) {
            house = into;
            house.clear();
            turnTold = false;
            oddsTold = false;
            for (int parts = 0; parts <= LONGEST_TAPE && tape.kind != TEXT_END; parts++) {
                if (!takesPart()) {
                    return false;
                }
            }
            return true;
        }

        private boolean takesPart() {
            switch (tape.word) {
                case TURN:
                    return takesTurn();
                case ODDS:
                    return takesOdds();
                case TOPIC:
                    return takesTopic();
                case MONK:
                    return takesMonk();
                case FOLLOWS:
                    return takesFollows();
                case ROSTER:
                    return takesRoster();
                case HEARS:
                    return takesHears();
                default:
                    return tape.fail(FAULT_MISPLACED);
            }
        }

        private boolean takesTurn() {
            if (turnTold) {
                return tape.fail(FAULT_AGAIN);
            }
            turnTold = true;
            tape.advance();
            int turn = tape.takeNumber(1, MOST_TURN);
            if (turn == NONE) {
                return false;
            }
            house.turn = turn;
            return tape.skipSemicolon();
        }

        private boolean takesOdds() {
            if (oddsTold) {
                return tape.fail(FAULT_AGAIN);
            }
            oddsTold = true;
            tape.advance();
            int odds = tape.takeNumber(0, MOST_ODDS);
            if (odds == NONE) {
                return false;
            }
            house.odds = odds;
            return tape.skipSemicolon();
        }

        private boolean takesTopic() {
            if (house.topics.count >= MOST_TOPICS) {
                return tape.fail(FAULT_CROWDED);
            }
            tape.advance();
            long name = takeNewName();
            if (name == 0 || !tape.skipWord(COST)) {
                return false;
            }
            int cost = tape.takeNumber(0, MOST_COST);
            if (cost == NONE) {
                return false;
            }
            house.topics.add(name, cost);
            return tape.skipSemicolon();
        }

        private boolean takesMonk() {
            if (house.monks.count >= MOST_MONKS) {
                return tape.fail(FAULT_CROWDED);
            }
            tape.advance();
            long name = takeNewName();
            if (name == 0 || !tape.skipWord(BREATH)) {
                return false;
            }
            int breath = tape.takeNumber(0, MOST_BREATH);
            if (breath == NONE) {
                return false;
            }
            int rest = 1;
            if (tape.word == REST) {
                tape.advance();
                rest = tape.takeNumber(0, MOST_REST);
            }
            if (rest == NONE) {
                return false;
            }
            boolean asleep = tape.word == ASLEEP;
            if (asleep) {
                tape.advance();
            }
            house.monks.add(name, breath, rest, !asleep);
            return tape.skipSemicolon();
        }

        // 0 if it is a FAULT.
        private long takeNewName() {
            if (!tape.isName()) {
                tape.fail(FAULT_MISPLACED);
                return 0;
            }
            long name = tape.name;
            if (house.topics.find(name) != NONE || house.monks.find(name) != NONE) {
                tape.fail(FAULT_NAME);
                return 0;
            }
            tape.advance();
            return name;
        }

        private boolean takesFollows() {
            tape.advance();
            int topic = house.topics.find(tape.name);
            if (!tape.skipName(topic)) {
                return false;
            }
            int next = house.topics.find(tape.name);
            if (!tape.skipName(next)) {
                return false;
            }
            house.topics.nexts[topic] = with(house.topics.nexts[topic], next, true);
            return tape.skipSemicolon();
        }

        private boolean takesRoster() {
            if (house.entries >= MOST_ENTRIES) {
                return tape.fail(FAULT_CROWDED);
            }
            tape.advance();
            int monk = house.monks.find(tape.name);
            if (!tape.skipName(monk)) {
                return false;
            }
            int topic = house.topics.find(tape.name);
            if (!tape.skipName(topic)) {
                return false;
            }
            house.addEntry(monk, topic);
            return tape.skipSemicolon();
        }

        private boolean takesHears() {
            tape.advance();
            int monk = house.monks.find(tape.name);
            if (!tape.skipName(monk)) {
                return false;
            }
            int other = house.monks.find(tape.name);
            if (other == monk) {
                return tape.fail(FAULT_AGAIN);
            }
            if (!tape.skipName(other)) {
                return false;
            }
            house.monks.lend(monk, other, true);
            return tape.skipSemicolon();
        }
    }

    /** Reads DAYS from the tape. */
    private static final class DaysReader {
        private final Tape tape;
        private final int[] open = new int[MOST_NESTED];
        private int depth;
        private Days days;
        private House house;

        DaysReader(Tape tape) {
            this.tape = tape;
        }

        boolean takes(Days into, House of) {
            days = into;
            house = of;
            days.clear();
            depth = 0;
            for (int steps = 0; steps <= LONGEST_DAYS && tape.kind != TEXT_END; steps++) {
                if (!(tape.word == END ? takesEnd() : takesStep())) {
                    return false;
                }
            }
            days.there = depth == 0;
            return days.there || tape.fail(FAULT_MISPLACED);
        }

        private boolean takesEnd() {
            if (depth <= 0) {
                return tape.fail(FAULT_MISPLACED);
            }
            depth--;
            int end = days.add(END);
            int begin = open[depth];
            if (end == NONE || begin < 0) {
                return tape.fail(FAULT_MISPLACED);
            }
            days.mates[end] = begin;
            days.mates[begin] = end;
            tape.advance();
            return tape.skipSemicolon();
        }

        private boolean takesStep() {
            int kind = tape.word;
            int at = addStep(kind);
            if (at == NONE) {
                return false;
            }
            tape.advance();
            switch (kind) {
                case MINUTE:
                    return takesNumber(at, 1, MINUTES_STEP) && tape.skipSemicolon();
                case LOOP:
                    return takesNumber(at, 1, MOST_ROUNDS) && tape.skipSemicolon();
                case CHANGE:
                case WAKE:
                case SLEEP:
                    return takesMonk(at) && tape.skipSemicolon();
                case WHEN:
                    return takesTest(at) && tape.skipSemicolon();
                default:
                    return tape.skipSemicolon();
            }
        }

        // Where the STEP stands that the WORD begins; NONE if it is a FAULT.
        private int addStep(int kind) {
            boolean opens = kind == WHEN || kind == LOOP;
            int wrong = 0;
            if (!isStepWord(kind)) {
                wrong = FAULT_MISPLACED;
            } else if (days.steps >= MOST_STEPS) {
                wrong = FAULT_CROWDED;
            } else if (opens && depth >= MOST_NESTED) {
                wrong = FAULT_DEEP;
            }
            if (wrong != 0) {
                tape.fail(wrong);
                return NONE;
            }
            int at = days.add(kind);
            days.steps++;
            if (opens) {
                open[depth] = at;
                depth++;
            }
            return at;
        }

        private static boolean isStepWord(int word) {
            return word == MINUTE || word == CHANGE || word == WAKE || word == SLEEP || word == ANY
                    || word == WHEN || word == LOOP || word == STOP;
        }

        private boolean takesTest(int at) {
            int test = tape.word;
            if (test != SILENT && test != LAST && test != BREATH && test != PAUSED) {
                return tape.fail(FAULT_MISPLACED);
            }
            days.tests[at] = test;
            tape.advance();
            if (test == LAST) {
                days.whos[at] = house.topics.find(tape.name);
                return tape.skipName(days.whos[at]);
            }
            if (test != PAUSED && !takesMonk(at)) {
                return false;
            }
            if (test == SILENT) {
                return true;
            }
            days.signs[at] = tape.takeCompare();
            if (days.signs[at] == NONE) {
                return false;
            }
            return takesNumber(at, 0, test == BREATH ? MOST_BREATH : LAST_MINUTE);
        }

        private boolean takesMonk(int at) {
            days.whos[at] = house.monks.find(tape.name);
            return tape.skipName(days.whos[at]);
        }

        private boolean takesNumber(int at, int least, int most) {
            days.muches[at] = tape.takeNumber(least, most);
            return days.muches[at] != NONE;
        }
    }

    /** DAYS as they are LIVED in a HOUSE, with what became of them. */
    private static final class Life {
        // Between two STEPS stand at most as many ends as can be open: this is far above that.
        private static final int MOST_MOVES = 10000;
        private final int[] rounds = new int[2 * MOST_STEPS];
        private House house;
        private Days days;
        private int state;
        int steps;
        int missed;
        int minutes;
        int pauses;
        int helps;
        boolean left;
        boolean there;

        void run(House inHouse, Days byDays, int seed) {
            house = inHouse;
            days = byDays;
            state = seed;
            steps = 0;
            missed = 0;
            left = false;
            there = true;
            minutes = -house.minutes;
            pauses = -house.pauses;
            helps = -house.helps;
            int at = 0;
            for (int moves = 0; moves < MOST_MOVES && within(at, 0, days.size - 1) && !left; moves++) {
                if (days.kinds[at] == END) {
                    at = behindEnd(at);
                } else if (steps < MOST_STEPS_DONE) {
                    steps++;
                    at = behindStep(at);
                } else {
                    left = true;
                }
            }
            minutes += house.minutes;
            pauses += house.pauses;
            helps += house.helps;
        }

        // A loop of nothing is done at once.
        private int behindEnd(int at) {
            int begin = days.mates[at];
            if (begin < 0 || days.kinds[begin] != LOOP || begin + 1 == at) {
                return at + 1;
            }
            rounds[begin]--;
            return rounds[begin] > 0 ? begin + 1 : at + 1;
        }

        private int behindStep(int at) {
            int who = days.whos[at];
            int much = days.muches[at];
            switch (days.kinds[at]) {
                case MINUTE:
                    miss(house.minutes + much > LAST_MINUTE);
                    house.pass(house.minutes + much > LAST_MINUTE ? 0 : much);
                    break;
                case CHANGE:
                    miss(house.quiet == who);
                    house.quiet = who;
                    break;
                case WAKE:
                    miss(house.monks.isAwake(who));
                    house.monks.rouse(who, true);
                    break;
                case SLEEP:
                    miss(!house.monks.isAwake(who));
                    house.monks.rouse(who, false);
                    break;
                case ANY:
                    miss(!coughed());
                    break;
                case LOOP:
                    rounds[at] = much;
                    break;
                case WHEN:
                    return holds(at) ? at + 1 : days.mates[at] + 1;
                default:
                    return days.size;
            }
            return at + 1;
        }

        private void miss(boolean is) {
            missed += truth(is);
        }

        private boolean coughed() {
            if (house.monks.count <= 0) {
                return false;
            }
            int monk = draw(house.monks.count);
            int less = draw(8);
            house.monks.breaths[monk] = Math.max(0, house.monks.breaths[monk] - less);
            return true;
        }

        private int draw(int by) {
            state = (state * 3119 + 11329) % 65536;
            return by > 0 ? state / 8 % by : 0;
        }

        private boolean holds(int at) {
            int who = days.whos[at];
            switch (days.tests[at]) {
                case SILENT:
                    return house.quiet == who;
                case LAST:
                    return house.lately == who;
                case BREATH:
                    return compares(house.monks.breaths[who], days.signs[at], days.muches[at]);
                default:
                    return compares(house.pauses, days.signs[at], days.muches[at]);
            }
        }

        private static boolean compares(int one, int sign, int other) {
            switch (sign) {
                case '<':
                    return one < other;
                case '>':
                    return one > other;
                default:
                    return one == other;
            }
        }
    }

    /** What will be, tried in HOUSES of its own: one for each MINUTE of a search. */
    private static final class Ahead {
        private final House[] houses = new House[MINUTES_HEARD];
        private final int[] way = new int[MINUTES_SHIFT];
        private final int[] said = new int[MINUTES_HEARD];
        private int length;
        private int best;
        private int asked;
        final int[] bestWay = new int[MINUTES_SHIFT];
        int suspects;

        Ahead() {
            for (int i = 0; i < MINUTES_HEARD; i++) {
                houses[i] = new House();
            }
        }

        House in(House now, int minutes) {
            houses[0].copy(now);
            houses[0].pass(minutes);
            return houses[0];
        }

        int firstPause(House now, int minutes) {
            return firstPauseOf(in(now, 0), minutes);
        }

        private static int firstPauseOf(House house, int minutes) {
            for (int i = 0; i < minutes; i++) {
                if (!house.passOne()) {
                    return i;
                }
            }
            return NONE;
        }

        boolean suffices(House now, int set, int minutes) {
            House house = houses[0];
            house.copy(now);
            house.monks.awake = set;
            return firstPauseOf(house, minutes) == NONE;
        }

        int smallest(House now, int minutes) {
            int sets = 1 << now.monks.count;
            for (int many = 0; many <= now.monks.count; many++) {
                for (int set = 0; set < sets; set++) {
                    if (Integer.bitCount(set) == many && suffices(now, set, minutes)) {
                        return set;
                    }
                }
            }
            return NONE;
        }

        // SHIFT: the least BREATH in the end, or NONE; bestWay tells who says what.
        int easiest(House now, int minutes) {
            houses[0].copy(now);
            length = minutes;
            best = NONE;
            tryMinute(0);
            return best;
        }

        // Ways are tried from the first on, so that only a better one than the best can take its place.
        private void tryMinute(int depth) {
            if (depth >= length || depth >= MINUTES_SHIFT) {
                return;
            }
            House house = houses[depth];
            if (house.monks.leastRested(NONE, length - depth) <= best) {
                return;
            }
            for (int monk = 0; monk < house.monks.count; monk++) {
                int sayable = house.sayable(monk);
                int others = house.monks.leastRested(monk, 1);
                for (int topic = 0; topic < MOST_TOPICS; topic++) {
                    if (!has(sayable, topic)) {
                        continue;
                    }
                    way[depth] = speechOf(monk, topic);
                    if (depth + 1 == length) {
                        int own = house.monks.breaths[monk] - house.topics.costs[topic];
                        weigh(Math.min(others, own));
                    } else {
                        next(depth, monk, topic);
                        tryMinute(depth + 1);
                    }
                }
            }
        }

        private void weigh(int least) {
            if (least > best) {
                best = least;
                System.arraycopy(way, 0, bestWay, 0, length);
            }
        }

        private void next(int depth, int monk, int topic) {
            houses[depth + 1].copy(houses[depth]);
            houses[depth + 1].goBy(monk, topic);
        }

        // HEARD: in how many ways; suspects are who can have said what was asked for.
        int ways(House now, Tray tray, int many, int which) {
            houses[0].copy(now);
            length = many;
            asked = which;
            suspects = 0;
            for (int i = 0; i < many; i++) {
                said[i] = (int) tray.row[i];
            }
            return waysFrom(0);
        }

        private int waysFrom(int depth) {
            if (depth >= length || depth >= MINUTES_HEARD) {
                return 1;
            }
            House house = houses[depth];
            int topic = said[depth];
            int sum = 0;
            for (int monk = 0; monk < house.monks.count; monk++) {
                if (!house.canSay(monk, topic)) {
                    continue;
                }
                int ways = 1;
                if (depth + 1 < length) {
                    next(depth, monk, topic);
                    ways = waysFrom(depth + 1);
                }
                if (ways > 0 && depth == asked) {
                    suspects |= 1 << monk;
                }
                sum += ways;
            }
            return sum;
        }
    }

    /** Rows, rings and games of TOPICS. */
    private static final class Talk {
        final int[] row = new int[MOST_TOPICS];
        final int[] found = new int[MOST_TOPICS];
        private int length;

        // TALK: how many TOPICS; found tells which.
        int longest(Topics topics, int from) {
            length = 0;
            goOn(topics, from, 0, 0);
            return length;
        }

        private void goOn(Topics topics, int topic, int depth, int said) {
            if (depth >= MOST_TOPICS) {
                return;
            }
            row[depth] = topic;
            if (depth >= length) {
                length = depth + 1;
                System.arraycopy(row, 0, found, 0, length);
            }
            int all = with(said, topic, true);
            int open = topics.nexts[topic] & ~all;
            for (int next = 0; next < topics.count; next++) {
                if (has(open, next)) {
                    goOn(topics, next, depth + 1, all);
                }
            }
        }

        // RING: how many TOPICS, or NONE; the row tells which.
        int shortestRing(Topics topics) {
            for (int many = 1; many <= topics.count; many++) {
                for (int first = 0; first < topics.count; first++) {
                    row[0] = first;
                    if (closes(topics, 1, many)) {
                        return many;
                    }
                }
            }
            return NONE;
        }

        // As no shorter ring is there, none of these can come to a TOPIC twice.
        private boolean closes(Topics topics, int depth, int many) {
            if (depth < 1 || depth > MOST_TOPICS) {
                return false;
            }
            int open = topics.nexts[row[depth - 1]];
            if (depth == many) {
                return has(open, row[0]);
            }
            for (int next = 0; next < topics.count; next++) {
                if (has(open, next)) {
                    row[depth] = next;
                    if (closes(topics, depth + 1, many)) {
                        return true;
                    }
                }
            }
            return false;
        }

        static int behind(Topics topics, int topic) {
            int set = topics.nexts[topic];
            for (int round = 0; round < topics.count; round++) {
                for (int i = 0; i < topics.count; i++) {
                    if (has(set, i)) {
                        set |= topics.nexts[i];
                    }
                }
            }
            return set;
        }

        // GAME: the least TOPIC by which who is to say one wins, or NONE; each call has one more said.
        private static int winner(Topics topics, int topic, int said) {
            int open = topics.nexts[topic] & ~said;
            for (int next = 0; next < topics.count; next++) {
                if (has(open, next) && winner(topics, next, with(said, next, true)) == NONE) {
                    return next;
                }
            }
            return NONE;
        }
    }
}
