import java.util.ArrayList;
import java.util.Arrays;
import java.util.List;
import java.util.TreeSet;

/**
 * Long runs of calls, each answered by StampRelay and by a second, plain reading of the document (Model).
 * The runs come from a counted row of numbers, so that each start gives the same ones. No object gets more
 * than the 512 calls for which the document promises something.
 */
public final class ModelRunsTest {
    private static final int MIXED_RUNS = 1500;
    private static final int MIXED_CALLS = 512;
    private static final int LOOKED_AT_RUNS = 2500;
    private static final int MOST_CALLS = 512;
    // What one look at everything takes: 60 letters, a full queue, people, relays, routes and the three counts.
    private static final int LOOK_CALLS = 3 * 60 + 60 + 5 * 8 + 6 * 4 + 3;

    private static int wrong = 0;
    private static int mostFalseMarks = 0;
    private static int mostLetters = 0;
    private static int lostLetters = 0;
    private static int expiredLetters = 0;
    private static int paidLess = 0;

    public static void main(String[] args) {
        for (int run = 0; run < MIXED_RUNS && wrong < 20; run++) {
            mixedRun(run);
        }
        for (int run = 0; run < LOOKED_AT_RUNS && wrong < 20; run++) {
            lookedAtRun(100000 + run);
        }
        checkReach();
        System.out.println(wrong == 0 ? "all answers are as due" : wrong + " answers are not as due");
        if (wrong != 0) {
            System.exit(1);
        }
    }

    // ---- the runs

    /** Calls of all kinds, mixed: a call that only looks must not change what later calls answer. */
    private static void mixedRun(int run) {
        Caller caller = new Caller(run);
        for (int call = 0; call < MIXED_CALLS && wrong < 20; call++) {
            if (caller.chance(35)) {
                caller.lookOnce();
            } else {
                caller.act();
            }
        }
        note(caller.model);
    }

    /** Calls that change the state, then a look at everything. */
    private static void lookedAtRun(int run) {
        Caller caller = new Caller(run);
        int calls = 1 + caller.below(MOST_CALLS - LOOK_CALLS);
        for (int call = 0; call < calls && wrong < 20; call++) {
            caller.act();
        }
        caller.lookAtEverything();
        note(caller.model);
    }

    private static void note(Model model) {
        for (Model.Person person : model.people) {
            mostFalseMarks = Math.max(mostFalseMarks, person.falseMarks);
        }
        mostLetters = Math.max(mostLetters, model.letters.size());
        for (Model.Letter letter : model.letters) {
            lostLetters += letter.state == StampRelay.LOST ? 1 : 0;
            expiredLetters += letter.state == StampRelay.EXPIRED ? 1 : 0;
        }
        paidLess += model.paidLess;
    }

    /** The runs are worth something only if they come to the edges. */
    private static void checkReach() {
        if (wrong == 0 && (mostFalseMarks < 6 || mostLetters < 60 || lostLetters < 100 || expiredLetters < 100
                || paidLess < 10)) {
            wrong++;
            System.out.println("the runs do not come far: false marks " + mostFalseMarks + ", letters " + mostLetters
                    + ", lost " + lostLetters + ", expired " + expiredLetters + ", paid less " + paidLess);
        }
    }

    // ---- one run: the same calls to the object and to the model

    private static final class Caller {
        final StampRelay object = new StampRelay();
        final Model model = new Model();
        private final int run;
        private long seed;
        private int calls = 0;
        private final List<String> told = new ArrayList<>();

        // What a run likes: without such likings, few runs would come to false marks or to loops.
        private final int oftenRoutes;
        private final int oftenSends;
        private final int oftenPasses;
        private final int oftenAnswers;
        private final int oftenMarks;
        private final int oftenWrong;
        private final int mostStake;
        private final int shortTicks;
        private final int favourite;
        private final int enemy;

        Caller(int run) {
            this.run = run;
            this.seed = run * 7919L + 12345;
            oftenRoutes = 1 + below(25);
            oftenSends = 20 + below(60);
            oftenPasses = 10 + below(40);
            oftenAnswers = 5 + below(60);
            oftenMarks = 1 + below(40);
            oftenWrong = below(8);
            mostStake = chance(50) ? 20 : below(21);
            shortTicks = chance(80) ? 95 : 50;
            favourite = below(8);
            enemy = below(8);
        }

        int below(int bound) {
            seed = seed * 6364136223846793005L + 1442695040888963407L;
            return (int) ((seed >>> 33) % bound);
        }

        boolean chance(int percent) {
            return below(100) < percent;
        }

        private int number(int count) {
            if (below(100) < oftenWrong) {
                int[] edges = {-1, count, count + 1, Integer.MIN_VALUE, Integer.MAX_VALUE};
                return edges[below(edges.length)];
            }
            return count == 0 ? 0 : below(count);
        }

        private int person() {
            return chance(40) ? favourite : number(8);
        }

        private int letterToRead() {
            List<Integer> open = new ArrayList<>();
            for (int i = 0; i < model.letters.size(); i++) {
                if (model.letters.get(i).state == StampRelay.DELIVERED) {
                    open.add(i);
                }
            }
            if (open.isEmpty() || chance(oftenWrong)) {
                return number(model.letters.size());
            }
            return open.get(below(open.size()));
        }

        private int ticks() {
            if (chance(oftenWrong)) {
                int[] edges = {0, -1, 51, Integer.MIN_VALUE, Integer.MAX_VALUE};
                return edges[below(edges.length)];
            }
            return chance(shortTicks) ? 1 + below(3) : 1 + below(50);
        }

        private int stake(int sender) {
            if (chance(oftenWrong)) {
                int[] edges = {-1, 21, Integer.MIN_VALUE, Integer.MAX_VALUE, 0, 20};
                return edges[below(edges.length)];
            }
            int least = sender >= 0 && sender < 8 ? model.leastStake(sender) : 0;
            if (chance(20)) {
                return Math.max(0, least - 1);
            }
            return chance(40) ? least : least + below(Math.max(1, mostStake - least + 1));
        }

        void act() {
            int pick = below(oftenRoutes + oftenSends + oftenPasses + oftenAnswers + oftenMarks);
            if ((pick -= oftenRoutes) < 0) {
                call("setRoute", number(4), number(4), number(4));
            } else if ((pick -= oftenSends) < 0) {
                int sender = person();
                int reader = chance(30) ? enemy : number(8);
                call("send", sender, reader, stake(sender));
            } else if ((pick -= oftenPasses) < 0) {
                call("pass", ticks());
            } else {
                int letter = letterToRead();
                boolean byEnemy = letter >= 0 && letter < model.letters.size()
                        && model.letters.get(letter).reader == enemy;
                boolean marks = (pick -= oftenAnswers) >= 0;
                call(marks || byEnemy && chance(60) ? "mark" : "answer", letter);
            }
        }

        void lookOnce() {
            switch (below(15)) {
                case 0: call("steps", number(4), number(4)); break;
                case 1: call("letters"); break;
                case 2: call("time"); break;
                case 3: call("stateOf", number(model.letters.size())); break;
                case 4: call("relayOf", number(model.letters.size())); break;
                case 5: call("marksOn", number(model.letters.size())); break;
                case 6: call("queue", number(4)); break;
                case 7: {
                    int relay = number(4);
                    int length = relay >= 0 && relay < 4 ? model.queueOf(relay).size() : 0;
                    call("queueAt", relay, chance(10) ? length : number(length));
                    break;
                }
                case 8: call("coins", number(8)); break;
                case 9: call("pool", number(4)); break;
                case 10: call("escrow"); break;
                case 11: call("reputation", number(8)); break;
                case 12: call("reputationAtOnce", number(8)); break;
                case 13: call("leastStake", number(8)); break;
                default: call("falseMarks", number(8)); break;
            }
        }

        void lookAtEverything() {
            call("letters");
            call("time");
            call("escrow");
            for (int letter = 0; letter < model.letters.size(); letter++) {
                call("stateOf", letter);
                call("relayOf", letter);
                call("marksOn", letter);
            }
            for (int relay = 0; relay < 4; relay++) {
                call("pool", relay);
                call("queue", relay);
                for (int place = 0; place < model.queueOf(relay).size(); place++) {
                    call("queueAt", relay, place);
                }
                for (int target = 0; target < 4; target++) {
                    call("steps", relay, target);
                }
            }
            for (int person = 0; person < 8; person++) {
                call("coins", person);
                call("reputation", person);
                call("reputationAtOnce", person);
                call("leastStake", person);
                call("falseMarks", person);
            }
        }

        private void call(String name, int... with) {
            calls++;
            if (calls > MOST_CALLS) {
                throw new IllegalStateException("the run itself is too long");
            }
            String got;
            try {
                got = String.valueOf(ofObject(name, with));
            } catch (RuntimeException e) {
                got = "throws." + e.getClass().getSimpleName();
            }
            String want = model.answerTo(name, with);
            told.add(name + Arrays.toString(with) + " -> " + want);
            if (!got.equals(want)) {
                wrong++;
                System.out.println("run " + run + ", call " + calls + ": " + name + Arrays.toString(with)
                        + " answered " + got + ", due is " + want);
                if (wrong == 1) {
                    System.out.println("the calls before: " + told.subList(Math.max(0, told.size() - 40), told.size()));
                }
            }
        }

        private int ofObject(String name, int[] with) {
            switch (name) {
                case "setRoute": return object.setRoute(with[0], with[1], with[2]);
                case "steps": return object.steps(with[0], with[1]);
                case "send": return object.send(with[0], with[1], with[2]);
                case "pass": return object.pass(with[0]);
                case "answer": return object.answer(with[0]);
                case "mark": return object.mark(with[0]);
                case "letters": return object.letters();
                case "time": return object.time();
                case "stateOf": return object.stateOf(with[0]);
                case "relayOf": return object.relayOf(with[0]);
                case "marksOn": return object.marksOn(with[0]);
                case "queue": return object.queue(with[0]);
                case "queueAt": return object.queueAt(with[0], with[1]);
                case "coins": return object.coins(with[0]);
                case "pool": return object.pool(with[0]);
                case "escrow": return object.escrow();
                case "reputation": return object.reputation(with[0]);
                case "reputationAtOnce": return object.reputationAtOnce(with[0]);
                case "leastStake": return object.leastStake(with[0]);
                default: return object.falseMarks(with[0]);
            }
        }
    }

    // ---- the second reading of the document

    private static final class Model {
        static final String INDEX = "throws.IndexOutOfBoundsException";
        static final String ARGUMENT = "throws.IllegalArgumentException";
        static final String STATE = "throws.IllegalStateException";

        static final class Person {
            int coins = 100;
            int falseMarks = 0;
        }

        static final class Letter {
            int number;
            int sender;
            int reader;
            int stake;
            int state = StampRelay.UNDER_WAY;
            boolean falsely = false;
            int deliveredAt = -1;
            List<Integer> way = new ArrayList<>();

            int lastRelay() {
                return way.get(way.size() - 1);
            }
        }

        final Person[] people = new Person[8];
        final List<Letter> letters = new ArrayList<>();
        final int[][] next = new int[4][4];
        final int[] pools = new int[4];
        int time = 0;
        int paidLess = 0;

        Model() {
            for (int i = 0; i < 8; i++) {
                people[i] = new Person();
            }
            for (int[] row : next) {
                for (int target = 0; target < 4; target++) {
                    row[target] = target;
                }
            }
        }

        String answerTo(String name, int[] with) {
            int first = with.length > 0 ? with[0] : 0;
            switch (name) {
                case "setRoute": return setRoute(with[0], with[1], with[2]);
                case "steps": return bad(first, 4) || bad(with[1], 4) ? INDEX : text(steps(first, with[1]));
                case "send": return send(with[0], with[1], with[2]);
                case "pass": return pass(first);
                case "answer": return answer(first);
                case "mark": return mark(first);
                case "letters": return text(letters.size());
                case "time": return text(time);
                case "stateOf": return bad(first, letters.size()) ? INDEX : text(letters.get(first).state);
                case "relayOf": return bad(first, letters.size()) ? INDEX : text(relayOf(letters.get(first)));
                case "marksOn": return bad(first, letters.size()) ? INDEX : text(marksOn(letters.get(first)));
                case "queue": return bad(first, 4) ? INDEX : text(queueOf(first).size());
                case "queueAt": return queueAt(first, with[1]);
                case "coins": return bad(first, 8) ? INDEX : text(people[first].coins);
                case "pool": return bad(first, 4) ? INDEX : text(pools[first]);
                case "escrow": return text(escrow());
                case "reputation": return bad(first, 8) ? INDEX : text(reputation(first));
                case "reputationAtOnce": return bad(first, 8) ? INDEX : text(reputation(first));
                case "leastStake": return bad(first, 8) ? INDEX : text(leastStake(first));
                default: return bad(first, 8) ? INDEX : text(people[first].falseMarks);
            }
        }

        static boolean bad(int number, int count) {
            return number < 0 || number >= count;
        }

        static String text(int number) {
            return String.valueOf(number);
        }

        String setRoute(int relay, int target, int then) {
            if (bad(relay, 4) || bad(target, 4) || bad(then, 4)) {
                return INDEX;
            }
            if (relay == target || relay == then) {
                return ARGUMENT;
            }
            int before = next[relay][target];
            next[relay][target] = then;
            return text(before);
        }

        int steps(int relay, int target) {
            List<Integer> way = new ArrayList<>();
            int at = relay;
            while (at != target) {
                way.add(at);
                at = next[at][target];
                if (way.contains(at)) {
                    return StampRelay.NONE;
                }
            }
            return way.size();
        }

        String send(int sender, int reader, int stake) {
            if (bad(sender, 8) || bad(reader, 8)) {
                return INDEX;
            }
            if (sender == reader || stake < 0 || stake > 20) {
                return ARGUMENT;
            }
            if (stake < leastStake(sender) || people[sender].coins < stake || letters.size() == 60) {
                return STATE;
            }
            Letter letter = new Letter();
            letter.number = letters.size();
            letter.sender = sender;
            letter.reader = reader;
            letter.stake = stake;
            letter.way.add(sender % 4);
            people[sender].coins -= stake;
            letters.add(letter);
            return text(letter.number);
        }

        String pass(int ticks) {
            if (ticks < 1 || ticks > 50) {
                return ARGUMENT;
            }
            if (time + ticks > 100000) {
                return STATE;
            }
            int delivered = 0;
            for (int i = 0; i < ticks; i++) {
                delivered += tick();
            }
            return text(delivered);
        }

        private int tick() {
            time++;
            List<List<Letter>> queues = new ArrayList<>();
            for (int relay = 0; relay < 4; relay++) {
                queues.add(queueOf(relay));
            }
            int delivered = 0;
            for (int relay = 0; relay < 4; relay++) {
                List<Letter> queue = queues.get(relay);
                for (Letter letter : queue.subList(0, Math.min(2, queue.size()))) {
                    delivered += move(letter, relay);
                }
            }
            for (Letter letter : letters) {
                if (letter.state == StampRelay.DELIVERED && letter.deliveredAt == time - 20) {
                    letter.state = StampRelay.EXPIRED;
                    people[letter.sender].coins += letter.stake;
                }
            }
            return delivered;
        }

        private int move(Letter letter, int relay) {
            int home = letter.reader % 4;
            if (home == relay) {
                letter.state = StampRelay.DELIVERED;
                letter.deliveredAt = time;
                return 1;
            }
            int then = next[relay][home];
            if (letter.way.contains(then)) {
                letter.state = StampRelay.LOST;
                pools[relay] += letter.stake;
            } else {
                letter.way.add(then);
            }
            return 0;
        }

        String answer(int number) {
            if (bad(number, letters.size())) {
                return INDEX;
            }
            Letter letter = letters.get(number);
            if (letter.state != StampRelay.DELIVERED) {
                return STATE;
            }
            letter.state = StampRelay.ANSWERED;
            people[letter.sender].coins += letter.stake;
            return text(reputation(letter.sender));
        }

        String mark(int number) {
            if (bad(number, letters.size())) {
                return INDEX;
            }
            Letter letter = letters.get(number);
            if (letter.state != StampRelay.DELIVERED) {
                return STATE;
            }
            TreeSet<Integer> others = new TreeSet<>();
            for (Letter other : letters) {
                if (other.sender == letter.sender && other.state == StampRelay.ANSWERED) {
                    others.add(other.reader);
                }
            }
            others.remove(letter.reader);
            letter.state = StampRelay.MARKED;
            pools[letter.reader % 4] += letter.stake;
            if (others.size() < 3) {
                return text(0);
            }
            Person reader = people[letter.reader];
            letter.falsely = true;
            reader.falseMarks++;
            int paid = letter.stake;
            if (reader.coins < paid) {
                paid = reader.coins;
                paidLess++;
            }
            reader.coins -= paid;
            people[letter.sender].coins += paid;
            return text(paid);
        }

        int relayOf(Letter letter) {
            return letter.state == StampRelay.UNDER_WAY ? letter.lastRelay() : StampRelay.NONE;
        }

        int marksOn(Letter letter) {
            int set = 0;
            for (int relay : letter.way) {
                set |= 1 << relay;
            }
            return set;
        }

        List<Letter> queueOf(int relay) {
            List<Letter> queue = new ArrayList<>();
            for (Letter letter : letters) {
                if (letter.state == StampRelay.UNDER_WAY && letter.lastRelay() == relay) {
                    queue.add(letter);
                }
            }
            int[] standing = new int[8];
            for (int person = 0; person < 8; person++) {
                standing[person] = reputation(person);
            }
            // The sort keeps letters of the same rank in their order, which is that of their numbers.
            queue.sort((a, b) -> Integer.compare(b.stake + standing[b.sender], a.stake + standing[a.sender]));
            return queue;
        }

        String queueAt(int relay, int place) {
            if (bad(relay, 4) || bad(place, queueOf(relay).size())) {
                return INDEX;
            }
            return text(queueOf(relay).get(place).number);
        }

        int escrow() {
            int coinsOutside = 0;
            for (Person person : people) {
                coinsOutside += person.coins;
            }
            for (int pool : pools) {
                coinsOutside += pool;
            }
            // No coin comes or goes: what nobody has and no pool holds is in escrow.
            return 800 - coinsOutside;
        }

        int reputation(int person) {
            int good = 0;
            int bad = 0;
            for (Letter letter : letters) {
                int weight = Math.max(1, 5 - people[letter.reader].falseMarks);
                if (letter.sender == person && letter.state == StampRelay.ANSWERED) {
                    good += weight;
                }
                if (letter.sender == person && letter.state == StampRelay.MARKED && !letter.falsely) {
                    bad += weight;
                }
            }
            return 2 * good - 3 * bad;
        }

        int leastStake(int person) {
            int least = 10 - reputation(person);
            return least < 0 ? 0 : least > 20 ? 20 : least;
        }
    }
}
