import java.lang.reflect.InvocationTargetException;
import java.lang.reflect.Method;
import java.lang.reflect.Modifier;
import java.util.ArrayDeque;
import java.util.ArrayList;
import java.util.Arrays;
import java.util.Deque;
import java.util.HashMap;
import java.util.List;
import java.util.Map;
import java.util.Objects;
import java.util.TreeSet;
import java.util.regex.Matcher;
import java.util.regex.Pattern;

/**
 * Compares the class with a second one, written after the document with the Java library's
 * collections: the same made-up calls on both, each answer and each exception side by side. No
 * object is asked more than 512 calls: to compare all that can be seen, the calls are made again on
 * new objects.
 */
public final class ModelTest {
    private static final int MOST_CALLS = 512;

    private static int wrong = 0;
    private static long seed = 1;
    private static List<Call> made = new ArrayList<>();
    private static final Map<String, Method> METHODS = new HashMap<>();

    private record Call(String name, Object[] values) {
    }

    public static void main(String[] args) {
        for (int run = 1; run <= 1500 && wrong < 10; run++) {
            seed = 77L * run + 5;
            compareRun(run, run % 3 == 0 ? 510 : 160);
        }
        System.out.println(wrong == 0 ? "class and model agree" : wrong + " answers differ");
        if (wrong != 0) {
            System.exit(1);
        }
    }

    // ---- made-up calls

    private static int pick(int many) {
        seed = seed * 6364136223846793005L + 1442695040888963407L;
        return (int) ((seed >>> 33) % many);
    }

    private static boolean chance(int percent) {
        return pick(100) < percent;
    }

    private static int[] extremes = {-1, Integer.MIN_VALUE, Integer.MAX_VALUE, 200, 1000, 41, 5, 24, 600};
    private static int reach;
    private static int lastBlock;
    private static int wrongs;

    private static int number(int least, int most) {
        if (chance(wrongs)) {
            return chance(50) ? extremes[pick(extremes.length)] : chance(50) ? least - 1 : most + 1;
        }
        return least + pick(most - least + 1);
    }

    private static int someBlock() {
        if (chance(wrongs)) {
            return chance(50) ? -1 : 200;
        }
        if (chance(4)) {
            return 196 + pick(4);
        }
        lastBlock = chance(45) ? Math.min(199, lastBlock + 1) : pick(reach);
        return lastBlock;
    }

    private static int someClient() {
        return number(0, 3);
    }

    private static void compareRun(int run, int calls) {
        Object[] pair = {new GhostLayers(), new Model()};
        reach = new int[] {8, 20, 40, 80, 200}[pick(5)];
        wrongs = chance(50) ? 0 : 3;
        lastBlock = 0;
        made = new ArrayList<>();
        StringBuilder told = new StringBuilder();
        int clients = 1 + pick(4);
        for (int i = 0; i < clients; i++) {
            both(run, told, pair, "addClient", 1 + pick(9));
        }
        if (chance(80)) {
            both(run, told, pair, "shape", 2 + pick(chance(60) ? 5 : 15), 2 + pick(chance(60) ? 5 : 23));
        }
        if (chance(60)) {
            both(run, told, pair, "set", 0, 2 + pick(chance(60) ? 4 : 19));
        }
        if (chance(60)) {
            both(run, told, pair, "set", 1, pick(chance(60) ? 6 : 41));
        }
        for (int i = 0; i < calls && wrong == 0; i++) {
            if (chance(65)) {
                someAct(run, told, pair, clients);
            } else {
                someQuestion(run, told, pair);
            }
            if (i % 16 == 15) {
                compareAll(run, told, pair);
            }
        }
        compareAll(run, told, pair);
    }

    private static int goodClient(int clients) {
        return chance(wrongs) ? someClient() : pick(clients);
    }

    private static void someAct(int run, StringBuilder told, Object[] pair, int clients) {
        int kind = pick(100);
        if (kind < 48) {
            both(run, told, pair, "read", goodClient(clients), someBlock());
        } else if (kind < 78) {
            both(run, told, pair, "write", goodClient(clients), someBlock(), number(0, 999));
        } else if (kind < 81) {
            both(run, told, pair, "flush", chance(70) ? 1 + pick(3) : number(1, 40));
        } else if (kind < 84) {
            both(run, told, pair, "forget", someBlock());
        } else if (kind < 86) {
            both(run, told, pair, "set", number(0, 1), number(0, 41));
        } else if (kind < 87) {
            both(run, told, pair, "setWeight", someClient(), number(1, 9));
        } else if (kind < 88) {
            both(run, told, pair, "addClient", number(1, 9));
        } else if (chance(15)) {
            both(run, told, pair, "shape", number(2, 16), number(2, 24));
        } else if (kind < 94) {
            int many = 1 + pick(chance(10) ? 9 : 2);
            for (int i = 0; i < many; i++) {
                both(run, told, pair, "undo");
            }
        } else if (kind < 95) {
            both(run, told, pair, "save", number(0, 1));
        } else if (kind < 96) {
            both(run, told, pair, "restore", number(0, 1));
        } else {
            someTrace(run, told, pair);
        }
    }

    private static void someTrace(int run, StringBuilder told, Object[] pair) {
        StringBuilder text = new StringBuilder();
        int commands = chance(85) ? pick(6) : 36 + pick(8);
        for (int i = 0; i < commands; i++) {
            text.append(someCommand(commands > 6));
        }
        if (chance(35) && text.length() > 0) {
            int place = pick(text.length());
            String signs = "rdw t;09@\n {`:/A\u0000\u00ff";
            char sign = signs.charAt(pick(signs.length()));
            if (chance(40)) {
                text.setCharAt(place, sign);
            } else if (chance(50)) {
                text.insert(place, sign);
            } else if (chance(50)) {
                text.deleteCharAt(place);
            } else {
                text.setLength(place);
            }
        }
        String whole = text.length() > 600 ? text.substring(0, 600) : text.toString();
        for (int at = 0; at < whole.length(); at += 4) {
            int word = 0;
            for (int k = 0; k < 4; k++) {
                word = word << 8 | (at + k < whole.length() ? whole.charAt(at + k) : ' ');
            }
            both(run, told, pair, "appendText", word);
        }
        if (chance(80)) {
            both(run, told, pair, "truncateText", whole.length());
        } else if (chance(50)) {
            both(run, told, pair, "truncateText", number(0, 600));
        }
        if (chance(90)) {
            both(run, told, pair, "runTrace");
        }
        both(run, told, pair, "errorCode");
        both(run, told, pair, "errorPosition");
    }

    private static String someCommand(boolean isShort) {
        int kind = pick(10);
        String gap = isShort ? "" : new String[] {"", " ", "\n", "  "}[pick(4)];
        String client = String.valueOf(chance(97) ? pick(4) : 4);
        String block = String.valueOf(chance(97) ? pick(reach) : pick(210));
        if (kind < 2) {
            return gap + "flush" + (chance(97) ? 1 + pick(3) : pick(45)) + gap + ";";
        }
        if (kind < 5) {
            return "write" + gap + client + " " + block + " " + gap + (chance(97) ? pick(1000) : 1000) + gap + ";";
        }
        if (kind < 7) {
            int to = Integer.parseInt(block) + (chance(97) ? pick(12) : -1);
            return "read" + client + " " + block + gap + "to" + gap + Math.max(0, to) + ";";
        }
        return gap + "read " + (chance(5) ? "000000000000000000" : "") + client + " " + block + gap + ";" + gap;
    }

    private static void someQuestion(int run, StringBuilder told, Object[] pair) {
        switch (pick(22)) {
            case 0: both(run, told, pair, "share", someClient()); break;
            case 1: both(run, told, pair, "hitShare"); break;
            case 2: both(run, told, pair, "order", number(0, 12)); break;
            case 3: both(run, told, pair, "victim", chance(50)); break;
            case 4: both(run, told, pair, "leaving"); break;
            case 5: both(run, told, pair, "oldest"); break;
            case 6: both(run, told, pair, "ages", number(0, 2)); break;
            case 7: both(run, told, pair, "ownedAt", someClient(), number(0, 2), number(0, 5)); break;
            case 8: both(run, told, pair, "excess", someClient()); break;
            case 9: both(run, told, pair, "toScan", someClient(), someBlock()); break;
            case 10: both(run, told, pair, "rank", someBlock()); break;
            case 11: both(run, told, pair, "between", number(0, 4), someBlock(), someBlock()); break;
            case 12: both(run, told, pair, "longest", number(0, 4)); break;
            case 13: both(run, told, pair, "differing"); break;
            case 14: both(run, told, pair, "stale", number(0, 20)); break;
            case 15: case 16: case 17:
                both(run, told, pair, "wouldBe", someClient(), someBlock(), number(0, 6)); break;
            case 18: case 19:
                both(run, told, pair, "ahead", someClient(), someBlock(), number(1, 40), number(1, 4), number(0, 6));
                break;
            case 20:
                both(run, told, pair, "bestLength", someClient(), someBlock(), number(1, 40), number(1, 4)); break;
            default:
                both(run, told, pair, "show", number(0, 4));
                for (int i = 0; i < 8; i++) {
                    both(run, told, pair, "output", number(0, 30));
                }
        }
    }

    // ---- both answer

    private static Object answer(Object whom, String name, Object[] values) {
        String key = whom.getClass().getName() + "." + name;
        try {
            return METHODS.computeIfAbsent(key, unused -> methodOf(whom.getClass(), name)).invoke(whom, values);
        } catch (InvocationTargetException e) {
            return e.getCause().getClass().getName();
        } catch (IllegalAccessException e) {
            throw new AssertionError(e);
        }
    }

    private static Method methodOf(Class<?> kind, String name) {
        for (Method method : kind.getDeclaredMethods()) {
            if (method.getName().equals(name) && Modifier.isPublic(method.getModifiers())) {
                return method;
            }
        }
        throw new AssertionError(name);
    }

    private static void both(int run, StringBuilder told, Object[] pair, String name, Object... values) {
        if (wrong != 0 || made.size() >= MOST_CALLS) {
            return;
        }
        made.add(new Call(name, values));
        Object got = answer(pair[0], name, values);
        Object want = answer(pair[1], name, values);
        told.append(name).append(Arrays.toString(values)).append(" -> ").append(want).append('\n');
        if (!Objects.equals(got, want)) {
            wrong++;
            System.out.println("run " + run + ":\n" + told + "answered " + got);
        }
    }

    private static void compareAll(int run, StringBuilder told, Object[] pair) {
        if (wrong != 0 || made.size() > MOST_CALLS - 100) {
            return;
        }
        int[] got = all(new Again());
        int[] want = all((Model) pair[1]);
        for (int i = 0; i < want.length; i++) {
            if (got[i] != want[i]) {
                wrong++;
                System.out.println("run " + run + ":\n" + told + "state " + i + " is " + got[i] + ", due is " + want[i]);
                return;
            }
        }
    }

    /** New objects behind the same calls. */
    private static final class Again {
        private GhostLayers object;
        private int calls;

        GhostLayers next() {
            if (object == null || calls >= MOST_CALLS) {
                object = new GhostLayers();
                for (Call call : made) {
                    answer(object, call.name, call.values);
                }
                calls = made.size();
            }
            calls++;
            return object;
        }
    }

    private static int[] all(Again x) {
        int[] row = new int[24 + 44 + 1400 + 150];
        int k = 0;
        for (int what = 0; what < 24; what++) {
            row[k++] = x.next().count(what);
        }
        int clients = row[6];
        for (int i = 0; i < 44; i++) {
            row[k++] = i / 11 < clients ? x.next().client(i / 11, i % 11) : -7;
        }
        for (int i = 0; i < 1400; i++) {
            row[k++] = x.next().block(i / 7, i % 7);
        }
        for (int i = 0; i < 150; i++) {
            row[k++] = x.next().at(i / 30, i % 30);
        }
        return row;
    }

    private static int[] all(Model x) {
        int[] row = new int[24 + 44 + 1400 + 150];
        int k = 0;
        for (int what = 0; what < 24; what++) {
            row[k++] = x.count(what);
        }
        for (int i = 0; i < 44; i++) {
            row[k++] = i / 11 < x.count(6) ? x.client(i / 11, i % 11) : -7;
        }
        for (int i = 0; i < 1400; i++) {
            row[k++] = x.block(i / 7, i % 7);
        }
        for (int i = 0; i < 150; i++) {
            row[k++] = x.at(i / 30, i % 30);
        }
        return row;
    }

    // ---- the model

    private record Token(char kind, int start, String text) {
    }

    private static final class Unit {
        int block;
        int value;
        int owner;
        int since = -1;

        Unit copy() {
            Unit u = new Unit();
            u.block = block;
            u.value = value;
            u.owner = owner;
            u.since = since;
            return u;
        }
    }

    private static final class Member {
        int[] n = new int[10];
        int weight;
        int run;
        int last = -1;

        Member copy() {
            Member m = new Member();
            m.n = n.clone();
            m.weight = weight;
            m.run = run;
            m.last = last;
            return m;
        }
    }

    private static final class State {
        int length = 4;
        int limit = 8;
        int up = 6;
        int low = 10;
        int target;
        int time;
        int head;
        int[] n = new int[30];
        int[] store = new int[200];
        List<List<Unit>> units = new ArrayList<>();
        List<List<Integer>> ghosts = new ArrayList<>();
        List<Member> members = new ArrayList<>();
        int down = -1;
        int gone = -1;

        State() {
            for (int b = 0; b < 200; b++) {
                store[b] = b * 5 >= 1000 ? b * 5 - 1000 : b * 5;
            }
            for (int i = 0; i < 3; i++) {
                units.add(new ArrayList<>());
            }
            for (int i = 0; i < 2; i++) {
                ghosts.add(new ArrayList<>());
            }
        }

        State copy() {
            State c = new State();
            c.length = length;
            c.limit = limit;
            c.up = up;
            c.low = low;
            c.target = target;
            c.time = time;
            c.head = head;
            c.n = n.clone();
            c.store = store.clone();
            for (int i = 0; i < 3; i++) {
                for (Unit u : units.get(i)) {
                    c.units.get(i).add(u.copy());
                }
            }
            for (int i = 0; i < 2; i++) {
                c.ghosts.get(i).addAll(ghosts.get(i));
            }
            for (Member m : members) {
                c.members.add(m.copy());
            }
            return c;
        }

        List<Unit> everyUnit() {
            List<Unit> every = new ArrayList<>();
            units.forEach(every::addAll);
            return every;
        }

        Unit find(int block) {
            return everyUnit().stream().filter(u -> u.block == block).findFirst().orElse(null);
        }

        int listOf(Unit u) {
            for (int i = 0; i < 3; i++) {
                if (units.get(i).contains(u)) {
                    return i;
                }
            }
            return -1;
        }

        List<Unit> dirtyOrder() {
            List<Unit> order = new ArrayList<>();
            for (int pass = 0; pass < 2; pass++) {
                for (int b = 0; b < 200; b++) {
                    Unit u = find(b);
                    if (u != null && u.since != -1 && (b >= head) == (pass == 0)) {
                        order.add(u);
                    }
                }
            }
            return order;
        }

        void clean(Unit u) {
            store[u.block] = u.value;
            u.since = -1;
            head = u.block == 199 ? 0 : u.block + 1;
            n[21]++;
        }

        int weights() {
            return members.stream().mapToInt(m -> m.weight).sum();
        }

        int upper(int who) {
            int k = 0;
            for (int i = 0; i < 2; i++) {
                for (Unit u : units.get(i)) {
                    k += u.owner == who ? 1 : 0;
                }
            }
            return k;
        }

        boolean tooMuch(int who) {
            return upper(who) * weights() > up * members.get(who).weight;
        }

        Unit toDemote(boolean wasFrequent) {
            int r = units.get(0).size();
            int f = units.get(1).size();
            if (r + f < up) {
                return null;
            }
            boolean fromRecent = r > 0 && (r > target || r == target && wasFrequent || f == 0);
            List<Unit> from = units.get(fromRecent ? 0 : 1);
            Unit worst = null;
            for (Unit u : from) {
                if (tooMuch(u.owner)) {
                    worst = u;
                }
            }
            return worst != null ? worst : from.get(from.size() - 1);
        }

        Unit toLeave() {
            List<Unit> lower = units.get(2);
            if (lower.size() < low) {
                return null;
            }
            Unit worst = null;
            for (Unit u : lower) {
                if (u.since == -1) {
                    worst = u;
                }
            }
            return worst != null ? worst : lower.get(lower.size() - 1);
        }

        void roomInLower() {
            Unit u = toLeave();
            if (u != null) {
                if (u.since != -1) {
                    clean(u);
                }
                units.get(2).remove(u);
                n[20]++;
                gone = u.block;
            }
        }

        void roomInUpper(boolean wasFrequent) {
            Unit u = toDemote(wasFrequent);
            if (u == null) {
                return;
            }
            int from = listOf(u);
            units.get(from).remove(u);
            List<Integer> list = ghosts.get(from);
            if (list.size() == up) {
                list.remove(up - 1);
            }
            list.add(0, u.block);
            roomInLower();
            units.get(2).add(0, u);
            n[19]++;
            down = u.block;
        }

        int access(int who, int block, Integer value) {
            time++;
            down = -1;
            gone = -1;
            Member m = members.get(who);
            m.run = m.last >= 0 && m.last + 1 == block ? m.run + 1 : 1;
            m.last = block;
            m.n[value == null ? 5 : 6]++;
            boolean scan = m.run >= length;
            n[22] += scan ? 1 : 0;
            Unit u = find(block);
            int where = u == null ? -1 : listOf(u);
            int kind = where == -1 ? 2 : where == 2 ? 1 : 0;
            n[14 + kind]++;
            m.n[7 + kind]++;
            if (kind == 2) {
                u = new Unit();
                u.block = block;
                u.value = store[block];
            }
            if (kind == 0) {
                if (!scan) {
                    units.get(where).remove(u);
                    units.get(1).add(0, u);
                }
            } else if (scan) {
                if (kind == 1) {
                    units.get(2).remove(u);
                } else {
                    roomInLower();
                }
                units.get(2).add(0, u);
            } else {
                units.get(2).remove(u);
                int g = ghosts.get(0).size();
                int h = ghosts.get(1).size();
                boolean wasRecent = ghosts.get(0).remove((Integer) block);
                boolean wasFrequent = ghosts.get(1).remove((Integer) block);
                if (wasRecent) {
                    n[17]++;
                    target = Math.min(up, target + Math.max(1, h / g));
                }
                if (wasFrequent) {
                    n[18]++;
                    target = Math.max(0, target - Math.max(1, g / h));
                }
                roomInUpper(wasFrequent);
                units.get(wasRecent || wasFrequent ? 1 : 0).add(0, u);
            }
            u.owner = who;
            if (value != null) {
                u.value = value;
                if (u.since == -1) {
                    u.since = time;
                }
                while (dirtyOrder().size() > limit) {
                    clean(dirtyOrder().get(0));
                }
            }
            return kind;
        }
    }

    /** The face once more; its exceptions are the document's. */
    public static final class Model {
        private State s = new State();
        private final Deque<State> past = new ArrayDeque<>();
        private final State[] slots = new State[2];
        private String text = "";
        private String output = "";
        private int code = 0;
        private int position = -1;

        private void act() {
            past.addLast(s.copy());
            if (past.size() > 8) {
                past.removeFirst();
            }
        }

        private void isClient(int client) {
            if (client < 0 || client >= s.members.size()) {
                throw new IndexOutOfBoundsException();
            }
        }

        private static void isIndex(boolean good) {
            if (!good) {
                throw new IndexOutOfBoundsException();
            }
        }

        private static void isIn(int value, int least, int most) {
            if (value < least || value > most) {
                throw new IllegalArgumentException();
            }
        }

        public int appendText(int fourBytes) {
            if (text.length() + 4 > 600) {
                throw new IllegalStateException();
            }
            for (int i = 3; i >= 0; i--) {
                text += (char) (fourBytes >> 8 * i & 0xff);
            }
            return text.length();
        }

        public int truncateText(int length) {
            isIn(length, 0, text.length());
            text = text.substring(0, length);
            return length;
        }

        private static List<Token> tokens(String text) {
            List<Token> found = new ArrayList<>();
            Matcher m = Pattern.compile("([a-z]+)|([0-9]+)|(;)|([ \n]+)|(.)", Pattern.DOTALL).matcher(text);
            while (m.find()) {
                if (m.group(4) == null) {
                    char kind = m.group(1) != null ? 'w' : m.group(2) != null ? 'n' : m.group(3) != null ? ';' : '?';
                    found.add(new Token(kind, m.start(), m.group()));
                }
            }
            found.add(new Token('e', text.length(), ""));
            return found;
        }

        private static boolean inRange(String digits, int least, int most) {
            java.math.BigInteger n = new java.math.BigInteger(digits);
            return n.compareTo(java.math.BigInteger.valueOf(least)) >= 0
                    && n.compareTo(java.math.BigInteger.valueOf(most)) <= 0;
        }

        /** What may come behind the tokens of a command so far: n is a number, w a word, ; the end. */
        private static String mayFollow(List<Token> command) {
            if (command.isEmpty()) {
                return "read write flush";
            }
            String verb = command.get(0).text;
            int size = command.size();
            if (verb.equals("flush")) {
                return size == 1 ? "n" : ";";
            }
            if (verb.equals("write")) {
                return size < 4 ? "n" : ";";
            }
            return size < 3 ? "n" : size == 3 ? "to;" : size == 4 ? "n" : ";";
        }

        private static int[] rangeOf(List<Token> command) {
            String verb = command.get(0).text;
            int size = command.size();
            if (verb.equals("flush")) {
                return new int[] {1, 40};
            }
            if (size == 1) {
                return new int[] {0, 3};
            }
            if (size == 2) {
                return new int[] {0, 199};
            }
            if (verb.equals("write")) {
                return new int[] {0, 999};
            }
            return new int[] {Integer.parseInt(new java.math.BigInteger(command.get(2).text).toString()), 199};
        }

        private static int wrongness(Token t, List<Token> command, int commands) {
            String may = mayFollow(command);
            if (t.kind == 'w') {
                boolean allowed = Arrays.asList(may.replace(";", "").split(" ")).contains(t.text) && !may.equals("n");
                return !allowed ? 1 : command.isEmpty() && commands == 40 ? 3 : 0;
            }
            if (t.kind == ';') {
                return may.contains(";") ? 0 : 1;
            }
            if (t.kind == 'n') {
                if (!may.equals("n")) {
                    return 1;
                }
                int[] range = rangeOf(command);
                return inRange(t.text, range[0], range[1]) ? 0 : 2;
            }
            return t.kind == 'e' && command.isEmpty() ? 0 : 1;
        }

        public int runTrace() {
            List<List<Token>> commands = new ArrayList<>();
            List<Token> command = new ArrayList<>();
            code = 0;
            position = -1;
            for (Token t : tokens(text)) {
                code = wrongness(t, command, commands.size());
                if (code != 0) {
                    position = t.start;
                    break;
                }
                if (t.kind == ';') {
                    commands.add(command);
                    command = new ArrayList<>();
                } else {
                    command.add(t);
                }
            }
            text = "";
            if (code != 0) {
                return -1;
            }
            act();
            int before = s.time;
            for (List<Token> c : commands) {
                if (!perform(c)) {
                    break;
                }
            }
            return s.time - before;
        }

        private boolean perform(List<Token> c) {
            int[] n = new int[c.size()];
            for (int i = 1; i < c.size(); i++) {
                n[i] = c.get(i).kind == 'n' ? new java.math.BigInteger(c.get(i).text).intValue() : -1;
            }
            if (c.get(0).text.equals("flush")) {
                writeBack(n[1]);
                return true;
            }
            if (n[1] >= s.members.size()) {
                return false;
            }
            if (c.get(0).text.equals("write")) {
                s.access(n[1], n[2], n[3]);
            } else {
                for (int b = n[2]; b <= (c.size() > 3 ? n[4] : n[2]); b++) {
                    s.access(n[1], b, null);
                }
            }
            return true;
        }

        private int writeBack(int many) {
            int done = 0;
            while (done < many && !s.dirtyOrder().isEmpty()) {
                s.clean(s.dirtyOrder().get(0));
                done++;
            }
            return done;
        }

        public int errorCode() {
            return code;
        }

        public int errorPosition() {
            return position;
        }

        public int addClient(int weight) {
            isIn(weight, 1, 9);
            if (s.members.size() == 4) {
                throw new IllegalStateException();
            }
            act();
            Member m = new Member();
            m.weight = weight;
            s.members.add(m);
            return s.members.size() - 1;
        }

        public int setWeight(int client, int weight) {
            isClient(client);
            isIn(weight, 1, 9);
            act();
            Member m = s.members.get(client);
            int previous = m.weight;
            m.weight = weight;
            return previous;
        }

        public int set(int what, int value) {
            isIn(what, 0, 1);
            isIn(value, what == 0 ? 2 : 0, what == 0 ? 20 : 40);
            act();
            int previous = what == 0 ? s.length : s.limit;
            if (what == 0) {
                s.length = value;
            } else {
                s.limit = value;
            }
            return previous;
        }

        public int shape(int up, int low) {
            isIn(up, 2, 16);
            isIn(low, 2, 24);
            act();
            int left = s.everyUnit().size();
            for (Unit u : s.dirtyOrder()) {
                s.clean(u);
            }
            s.units.forEach(List::clear);
            s.ghosts.forEach(List::clear);
            s.target = 0;
            s.up = up;
            s.low = low;
            return left;
        }

        public int count(int what) {
            isIn(what, 0, 23);
            int[] first = {s.length, s.limit, s.up, s.low, s.target, s.time, s.members.size()};
            if (what < 7) {
                return first[what];
            }
            if (what < 12) {
                return blocksOf(what - 7).size();
            }
            return what == 12 ? s.dirtyOrder().size() : what == 13 ? s.head : what == 23 ? past.size() : s.n[what];
        }

        private List<Integer> blocksOf(int list) {
            if (list > 2) {
                return s.ghosts.get(list - 3);
            }
            List<Integer> blocks = new ArrayList<>();
            s.units.get(list).forEach(u -> blocks.add(u.block));
            return blocks;
        }

        public int client(int client, int what) {
            isClient(client);
            isIn(what, 0, 10);
            Member m = s.members.get(client);
            switch (what) {
                case 0: return m.weight;
                case 1: return s.upper(client);
                case 2: return (int) s.units.get(2).stream().filter(u -> u.owner == client).count();
                case 3: return m.run;
                case 4: return m.last;
                case 10: return s.tooMuch(client) ? 1 : 0;
                default: return m.n[what];
            }
        }

        public int block(int block, int what) {
            isIn(block, 0, 199);
            isIn(what, 0, 6);
            Unit u = s.find(block);
            if (what == 5) {
                return s.ghosts.get(0).contains(block) ? 3 : s.ghosts.get(1).contains(block) ? 4 : -1;
            }
            if (what == 6) {
                return s.store[block];
            }
            if (u == null) {
                return -1;
            }
            int list = s.listOf(u);
            return new int[] {list, s.units.get(list).indexOf(u), u.value, u.owner, u.since}[what];
        }

        public int at(int list, int place) {
            isIndex(list >= 0 && list <= 4 && place >= 0);
            List<Integer> blocks = blocksOf(list);
            return place < blocks.size() ? blocks.get(place) : -1;
        }

        public int read(int client, int block) {
            isClient(client);
            isIn(block, 0, 199);
            act();
            s.access(client, block, null);
            return s.find(block).value;
        }

        public int write(int client, int block, int value) {
            isClient(client);
            isIn(block, 0, 199);
            isIn(value, 0, 999);
            act();
            int before = s.n[21];
            s.access(client, block, value);
            return s.n[21] - before;
        }

        public int flush(int many) {
            isIn(many, 1, 40);
            act();
            return writeBack(many);
        }

        public boolean forget(int block) {
            isIn(block, 0, 199);
            act();
            boolean had = s.find(block) != null;
            s.units.forEach(list -> list.removeIf(u -> u.block == block));
            s.ghosts.forEach(list -> list.remove((Integer) block));
            return had;
        }

        public double share(int client) {
            isClient(client);
            return (double) (s.up * s.members.get(client).weight) / (double) s.weights();
        }

        public float hitShare() {
            return s.time == 0 ? 0f : (float) s.n[14] / (float) s.time;
        }

        public int order(int index) {
            isIndex(index >= 0);
            List<Unit> order = s.dirtyOrder();
            return index < order.size() ? order.get(index).block : -1;
        }

        public int victim(boolean wasFrequent) {
            Unit u = s.toDemote(wasFrequent);
            return u == null ? -1 : u.block;
        }

        public int leaving() {
            Unit u = s.toLeave();
            return u == null ? -1 : u.block;
        }

        public int oldest() {
            return s.everyUnit().stream().filter(u -> u.since != -1)
                    .min((a, b) -> Integer.compare(a.since, b.since)).map(u -> u.block).orElse(-1);
        }

        public int ages(int list) {
            isIndex(list >= 0 && list <= 2);
            return s.units.get(list).stream().filter(u -> u.since != -1).mapToInt(u -> s.time - u.since).sum();
        }

        public int ownedAt(int client, int list, int index) {
            isClient(client);
            isIndex(list >= 0 && list <= 2 && index >= 0);
            int[] owned = s.units.get(list).stream().filter(u -> u.owner == client).mapToInt(u -> u.block).toArray();
            return index < owned.length ? owned[index] : -1;
        }

        public float excess(int client) {
            isClient(client);
            int sum = s.weights();
            return (float) (s.upper(client) * sum - s.up * s.members.get(client).weight) / (float) sum;
        }

        public int toScan(int client, int block) {
            isClient(client);
            isIn(block, 0, 199);
            State trial = s.copy();
            for (int b = block; b < 200; b++) {
                int before = trial.n[22];
                trial.access(client, b, null);
                if (trial.n[22] > before) {
                    return b - block + 1;
                }
            }
            return -1;
        }

        public int rank(int block) {
            isIn(block, 0, 199);
            return s.dirtyOrder().indexOf(s.find(block));
        }

        public int between(int list, int from, int to) {
            isIndex(list >= 0 && list <= 4);
            isIn(from, 0, 199);
            isIn(to, from, 199);
            return (int) blocksOf(list).stream().filter(b -> b >= from && b <= to).count();
        }

        public int longest(int list) {
            isIndex(list >= 0 && list <= 4);
            TreeSet<Integer> set = new TreeSet<>(blocksOf(list));
            int most = 0;
            for (int b : set) {
                int k = 1;
                while (set.contains(b + k)) {
                    k++;
                }
                most = Math.max(most, k);
            }
            return most;
        }

        public int differing() {
            return (int) s.everyUnit().stream().filter(u -> u.value != s.store[u.block]).count();
        }

        public int stale(int age) {
            isIn(age, 0, Integer.MAX_VALUE);
            return (int) s.everyUnit().stream()
                    .filter(u -> u.since != -1 && (long) s.time - u.since >= age).count();
        }

        public int wouldBe(int client, int block, int what) {
            isClient(client);
            isIn(block, 0, 199);
            isIn(what, 0, 6);
            State t = s.copy();
            int kind = t.access(client, block, null);
            return new int[] {kind, t.n[22] - s.n[22], t.listOf(t.find(block)), t.down, t.gone, t.n[21] - s.n[21],
                t.target}[what];
        }

        private State readMany(int client, int from, int many, int rounds, int length) {
            State t = s.copy();
            t.length = length;
            for (int r = 0; r < rounds; r++) {
                for (int b = from; b < from + many; b++) {
                    t.access(client, b, null);
                }
            }
            return t;
        }

        private void isAhead(int client, int from, int many, int rounds) {
            isClient(client);
            isIn(from, 0, 199);
            isIn(many, 1, 40);
            isIn(from + many, 1, 200);
            isIn(rounds, 1, 4);
        }

        public int ahead(int client, int from, int many, int rounds, int what) {
            isAhead(client, from, many, rounds);
            isIn(what, 0, 6);
            State t = readMany(client, from, many, rounds, s.length);
            if (what == 5) {
                return t.target;
            }
            int index = new int[] {14, 15, 16, 19, 21, 0, 22}[what];
            return t.n[index] - s.n[index];
        }

        public int bestLength(int client, int from, int many, int rounds) {
            isAhead(client, from, many, rounds);
            int best = 2;
            int most = -1;
            for (int length = 2; length <= 20; length++) {
                State t = readMany(client, from, many, rounds, length);
                int hits = t.n[14] + t.n[15];
                if (hits > most) {
                    most = hits;
                    best = length;
                }
            }
            return best;
        }

        public int show(int list) {
            isIndex(list >= 0 && list <= 4);
            List<String> words = new ArrayList<>();
            for (int b : blocksOf(list)) {
                words.add(b + (list < 3 && s.find(b).since != -1 ? "*" : ""));
            }
            output = String.join(",", words);
            return output.length();
        }

        public int output(int index) {
            return index >= 0 && index < output.length() ? output.charAt(index) : -1;
        }

        public int undo() {
            if (past.isEmpty()) {
                return -1;
            }
            s = past.removeLast();
            return past.size();
        }

        public void save(int slot) {
            isIn(slot, 0, 1);
            slots[slot] = s.copy();
        }

        public void restore(int slot) {
            isIn(slot, 0, 1);
            if (slots[slot] == null) {
                throw new IllegalStateException();
            }
            s = slots[slot].copy();
            past.clear();
        }
    }
}
