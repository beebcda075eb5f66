import java.math.BigInteger;
import java.util.ArrayList;
import java.util.Arrays;
import java.util.Comparator;
import java.util.HashMap;
import java.util.List;
import java.util.Map;
import java.util.Random;
import java.util.TreeMap;
import java.util.regex.Pattern;

/** Long runs of calls, the same ones every time, against a second reading of the document that cares for no room. */
public final class ModelTest {
    private static final int RUNS = 3000;
    private static final int CALLS = 512;
    private static final String[] NAMES = {"slot", "over", "most", "odds", "sell", "back", "waits", "given", "unit",
        "rules", "price", "about", "code", "whose", "read", "join", "twice", "leaves", "inside", "count"};
    private static final int[] ARGUMENTS = {1, 5, 1, 3, 3, 1, 3, 1, 1, 0, 1, 2, 2, 1, 3, 0, 2, 2, 1, 1};
    private static final int[] EDGES = {-1, -2, Integer.MIN_VALUE, Integer.MAX_VALUE, 60, 61, 101, 1001, 100001};
    private static final String[] CLAUSES = {"0=1", "1=00250", "2=99999", "3=0", "4=1250", "g1-5", "g9-100", "g3-00015",
        "g00004-33", "g0-1", "g10-1", "g00000-1", "g0000", "g1-101", "g2-000000", "5=1", "0=123456", "", "0", "g", "g1-", "4="};

    private static final class Slot {
        int places;
        int above = 1;
        int below = 1;
        int riskAbove = 0;
        int riskBelow = 1;

        Slot(int places) {
            this.places = places;
        }

        BigInteger tooMany(int n) {
            BigInteger sum = BigInteger.ZERO;
            for (int come = places + 1; come <= n; come++) {
                sum = sum.add(choose(n, come).multiply(BigInteger.valueOf(above).pow(come))
                    .multiply(BigInteger.valueOf(below - above).pow(n - come)));
            }
            return sum;
        }

        boolean risky(int n) {
            BigInteger odds = tooMany(n).multiply(BigInteger.valueOf(riskBelow));
            BigInteger risk = BigInteger.valueOf(below).pow(n).multiply(BigInteger.valueOf(riskAbove));
            return odds.compareTo(risk) > 0;
        }

        int most() {
            int n = places;
            while (n < places + 8 && !risky(n + 1)) {
                n++;
            }
            return n;
        }
    }

    private static BigInteger choose(int n, int k) {
        BigInteger ways = BigInteger.ONE;
        for (int i = 1; i <= k; i++) {
            ways = ways.multiply(BigInteger.valueOf(n - k + i)).divide(BigInteger.valueOf(i));
        }
        return ways;
    }

    private record Ticket(int slot, int guests, int kind) {
    }

    private record Entry(int ticket, int second, int reader) {
    }

    private static final class Model {
        static final String CLAUSE = "(?:[0-4]=[0-9]{1,5}|g0{0,4}[1-9]-(?:0{0,2}100|0{0,3}[0-9]{1,2}))";
        static final Pattern TEXT = Pattern.compile("|" + CLAUSE + "(?:," + CLAUSE + "){0,7}");
        // One of these ends every text that can be gone on with.
        static final String[] ENDS = {"", "1", "=1", "-1", "1-1", "0=1"};

        final List<Slot> slots = new ArrayList<>();
        final List<Ticket> tickets = new ArrayList<>();
        final List<Boolean> returned = new ArrayList<>();
        final List<Ticket> requests = new ArrayList<>();
        final Map<Integer, Integer> served = new HashMap<>();
        final List<Entry> entries = new ArrayList<>();
        final Map<Integer, Integer> firstIn = new HashMap<>();
        final Map<Integer, Integer> goneOut = new HashMap<>();
        List<Entry> doubles = new ArrayList<>();
        String text = "";
        String rules = "";

        static void index(boolean holds) {
            if (!holds) {
                throw new IndexOutOfBoundsException();
            }
        }

        static void state(boolean holds) {
            if (!holds) {
                throw new IllegalStateException();
            }
        }

        static void argument(boolean holds) {
            if (!holds) {
                throw new IllegalArgumentException();
            }
        }

        static boolean within(int x, int least, int greatest) {
            return least <= x && x <= greatest;
        }

        void slotThere(int slot) {
            index(within(slot, 0, slots.size() - 1));
        }

        void ticketThere(int ticket) {
            index(within(ticket, 0, tickets.size() - 1));
        }

        long answer(String name, int[] a) {
            switch (name) {
                case "slot":
                    state(slots.size() < 8);
                    argument(within(a[0], 1, 20));
                    slots.add(new Slot(a[0]));
                    return slots.size() - 1;
                case "over":
                    return over(a);
                case "most":
                    slotThere(a[0]);
                    return slots.get(a[0]).most();
                case "odds":
                    slotThere(a[0]);
                    index(within(a[2], 0, 39));
                    argument(within(a[1], 0, 28));
                    return slots.get(a[0]).tooMany(a[1]).divide(BigInteger.TEN.pow(a[2])).mod(BigInteger.TEN).longValue();
                case "sell":
                    slotThere(a[0]);
                    index(within(a[2], 0, 4));
                    state(tickets.size() < 60);
                    argument(within(a[1], 1, 9));
                    return hasRoom(a[0], a[1]) ? issue(new Ticket(a[0], a[1], a[2])) : -1;
                case "back":
                    return back(a[0]);
                case "waits":
                    slotThere(a[0]);
                    index(within(a[2], 0, 4));
                    state(requests.size() < 30);
                    argument(within(a[1], 1, 9));
                    requests.add(new Ticket(a[0], a[1], a[2]));
                    return requests.size() - 1;
                case "given":
                    index(within(a[0], 0, requests.size() - 1));
                    return served.getOrDefault(a[0], -1);
                case "unit":
                    state(text.length() < 60);
                    argument(within(a[0], 33, 126));
                    text += (char) a[0];
                    return text.length();
                case "rules":
                    return rules();
                default:
                    return answerMore(name, a);
            }
        }

        long answerMore(String name, int[] a) {
            switch (name) {
                case "price":
                    ticketThere(a[0]);
                    return price(tickets.get(a[0]));
                case "about":
                    ticketThere(a[0]);
                    index(within(a[1], 0, 3));
                    Ticket t = tickets.get(a[0]);
                    return new int[] {t.slot, t.guests, t.kind, returned.get(a[0]) ? 1 : 0}[a[1]];
                case "code":
                    ticketThere(a[0]);
                    index(within(a[1], 0, 5));
                    return code(a[0]).charAt(a[1]) - '0';
                case "whose":
                    for (int i = 0; i < tickets.size(); i++) {
                        if (Integer.parseInt(code(i)) == a[0]) {
                            return i;
                        }
                    }
                    return -1;
                case "read":
                    return read(a[0], a[1], a[2]);
                case "join":
                    return join();
                case "twice":
                    index(within(a[0], 0, doubles.size() - 1));
                    index(within(a[1], 0, 2));
                    Entry e = doubles.get(a[0]);
                    return new int[] {e.ticket, e.reader, e.second}[a[1]];
                case "leaves":
                    ticketThere(a[0]);
                    argument(within(a[1], 0, 100000));
                    if (goneOut.containsKey(a[0]) || !firstIn.containsKey(a[0]) || firstIn.get(a[0]) > a[1]) {
                        return 0;
                    }
                    goneOut.put(a[0], a[1]);
                    return 1;
                case "inside":
                    argument(within(a[0], 0, 100000));
                    int guests = 0;
                    for (int ticket : firstIn.keySet()) {
                        boolean here = firstIn.get(ticket) <= a[0] && goneOut.getOrDefault(ticket, 100001) > a[0];
                        guests += here ? tickets.get(ticket).guests : 0;
                    }
                    return guests;
                default:
                    index(within(a[0], 0, 4));
                    int clauses = rules.isEmpty() ? 0 : rules.split(",").length;
                    return new int[] {slots.size(), tickets.size(), requests.size() - served.size(), clauses,
                        text.length()}[a[0]];
            }
        }

        int over(int[] a) {
            slotThere(a[0]);
            argument(within(a[2], 1, 16) && within(a[1], 0, a[2]) && within(a[4], 1, 1000) && within(a[3], 0, a[4]));
            Slot s = slots.get(a[0]);
            s.above = a[1];
            s.below = a[2];
            s.riskAbove = a[3];
            s.riskBelow = a[4];
            return 0;
        }

        boolean hasRoom(int slot, int guests) {
            int sold = guests;
            for (int i = 0; i < tickets.size(); i++) {
                sold += tickets.get(i).slot == slot && !returned.get(i) ? tickets.get(i).guests : 0;
            }
            return sold <= slots.get(slot).most();
        }

        int issue(Ticket ticket) {
            tickets.add(ticket);
            returned.add(false);
            return tickets.size() - 1;
        }

        int back(int ticket) {
            ticketThere(ticket);
            if (returned.get(ticket) || entries.stream().anyMatch(e -> e.ticket == ticket)) {
                return -1;
            }
            returned.set(ticket, true);
            int got = 0;
            for (int r = 0; r < requests.size(); r++) {
                Ticket wish = requests.get(r);
                if (wish.slot == tickets.get(ticket).slot && !served.containsKey(r) && tickets.size() < 60
                    && hasRoom(wish.slot, wish.guests)) {
                    served.put(r, issue(wish));
                    got++;
                }
            }
            return got;
        }

        int rules() {
            String t = text;
            text = "";
            if (TEXT.matcher(t).matches()) {
                rules = t;
                return t.isEmpty() ? 0 : t.split(",").length;
            }
            int good = 0;
            while (good < t.length() && goesOn(t.substring(0, good + 1))) {
                good++;
            }
            return -1 - good;
        }

        static boolean goesOn(String start) {
            for (String end : ENDS) {
                if (TEXT.matcher(start + end).matches()) {
                    return true;
                }
            }
            return false;
        }

        long price(Ticket t) {
            long each = 0;
            long percent = 0;
            for (String clause : rules.split(",")) {
                if (clause.startsWith("g")) {
                    String[] parts = clause.substring(1).split("-");
                    if (Integer.parseInt(parts[0]) <= t.guests) {
                        percent = Math.max(percent, Integer.parseInt(parts[1]));
                    }
                } else if (clause.startsWith(t.kind + "=")) {
                    each = Integer.parseInt(clause.substring(2));
                }
            }
            return t.guests * each - t.guests * each * percent / 100;
        }

        String code(int ticket) {
            String five = String.format("%05d", (7919 * ticket + 31 * tickets.get(ticket).slot + 12345) % 100000);
            int[] weights = {3, 7, 1, 3, 7};
            int sum = 0;
            for (int i = 0; i < 5; i++) {
                sum += weights[i] * (five.charAt(i) - '0');
            }
            int check = 0;
            while ((sum + check) % 10 != 0) {
                check++;
            }
            return five + check;
        }

        int read(int reader, int ticket, int second) {
            index(within(reader, 0, 5));
            ticketThere(ticket);
            argument(within(second, 0, 100000));
            int start = 3600 * tickets.get(ticket).slot;
            if (entries.stream().anyMatch(e -> e.ticket == ticket && e.reader == reader)) {
                return 0;
            }
            if (returned.get(ticket)) {
                return 2;
            }
            if (second < start) {
                return 3;
            }
            if (second > start + 900) {
                return 4;
            }
            entries.add(new Entry(ticket, second, reader));
            return 1;
        }

        int join() {
            List<Entry> all = new ArrayList<>(entries);
            all.sort(Comparator.comparingInt(Entry::ticket).thenComparingInt(Entry::second)
                .thenComparingInt(Entry::reader));
            doubles = new ArrayList<>();
            firstIn.clear();
            for (Entry e : all) {
                if (firstIn.containsKey(e.ticket)) {
                    doubles.add(e);
                } else {
                    firstIn.put(e.ticket, e.second);
                }
            }
            return doubles.size();
        }
    }

    private static long ask(SlotTickets x, String name, int[] a) {
        switch (name) {
            case "slot": return x.slot(a[0]);
            case "over": x.over(a[0], a[1], a[2], a[3], a[4]); return 0;
            case "most": return x.most(a[0]);
            case "odds": return x.odds(a[0], a[1], a[2]);
            case "sell": return x.sell(a[0], a[1], a[2]);
            case "back": return x.back(a[0]);
            case "waits": return x.waits(a[0], a[1], a[2]);
            case "given": return x.given(a[0]);
            case "unit": return x.unit(a[0]);
            case "rules": return x.rules();
            case "price": return x.price(a[0]);
            case "about": return x.about(a[0], a[1]);
            case "code": return x.code(a[0], a[1]);
            case "whose": return x.whose(a[0]);
            case "read": return x.read(a[0], a[1], a[2]);
            case "join": return x.join();
            case "twice": return x.twice(a[0], a[1]);
            case "leaves": return x.leaves(a[0], a[1]) ? 1 : 0;
            case "inside": return x.inside(a[0]);
            default: return x.count(a[0]);
        }
    }

    /** Chooses calls that mostly make sense in the state that the model is in, and now and then wild ones. */
    private static final class Player {
        final Random random;
        final Model model;
        final int[] weights = new int[NAMES.length];
        int total = 0;
        String typing = "";

        Player(int seed, Model model) {
            random = new Random(seed);
            this.model = model;
            for (int i = 0; i < NAMES.length; i++) {
                weights[i] = NAMES[i].equals("unit") ? 1 : 2 + random.nextInt(random.nextBoolean() ? 4 : 20);
                total += weights[i];
            }
        }

        String name() {
            if (!typing.isEmpty()) {
                return "unit";
            }
            int at = random.nextInt(total);
            int i = 0;
            while (at >= weights[i]) {
                at -= weights[i];
                i++;
            }
            if (NAMES[i].equals("unit") && model.text.length() < 60) {
                typing = text();
                return typing.isEmpty() ? "rules" : "unit";
            }
            return NAMES[i];
        }

        String text() {
            if (random.nextInt(3) == 0) {
                StringBuilder signs = new StringBuilder();
                for (int i = random.nextInt(12); i >= 0; i--) {
                    signs.append("0123449g=-,,!~".charAt(random.nextInt(14)));
                }
                return signs.toString();
            }
            StringBuilder signs = new StringBuilder(model.text.isEmpty() ? "" : ",");
            int good = random.nextInt(4) == 0 ? CLAUSES.length : 9;
            for (int i = random.nextInt(random.nextBoolean() ? 4 : 10); i >= 0; i--) {
                signs.append(CLAUSES[random.nextInt(good)]).append(i > 0 ? "," : "");
            }
            return signs.toString();
        }

        int upTo(int greatest) {
            return random.nextInt(Math.max(1, greatest + 1));
        }

        int second(int ticket) {
            int slot = Model.within(ticket, 0, model.tickets.size() - 1) ? model.tickets.get(ticket).slot : upTo(7);
            int[] near = {-1, 0, 1, 2, 899, 900, 901, upTo(900), upTo(900), upTo(5000)};
            return 3600 * slot + near[upTo(near.length - 1)];
        }

        int[] arguments(String name, int count) {
            int slot = upTo(model.slots.size() - 1);
            int ticket = upTo(model.tickets.size() - 1);
            int[] a = new int[count];
            switch (name) {
                case "slot": a[0] = 1 + upTo(19); break;
                case "over":
                    a[0] = slot;
                    a[2] = 1 + upTo(15);
                    a[1] = upTo(a[2]);
                    a[4] = 1 + upTo(random.nextBoolean() ? 999 : 15);
                    a[3] = upTo(a[4]);
                    break;
                case "most": a[0] = slot; break;
                case "odds": a[0] = slot; a[1] = upTo(28); a[2] = upTo(random.nextBoolean() ? 39 : 3); break;
                case "sell":
                case "waits": a[0] = slot; a[1] = 1 + upTo(random.nextInt(4) == 0 ? 8 : 1); a[2] = upTo(4); break;
                case "back":
                case "price": a[0] = ticket; break;
                case "given": a[0] = upTo(model.requests.size() - 1); break;
                case "unit":
                    a[0] = typing.isEmpty() ? '0' : typing.charAt(0);
                    typing = typing.isEmpty() ? "" : typing.substring(1);
                    break;
                case "about": a[0] = ticket; a[1] = upTo(3); break;
                case "code": a[0] = ticket; a[1] = upTo(5); break;
                case "whose":
                    a[0] = model.tickets.isEmpty() ? upTo(999999) : Integer.parseInt(model.code(ticket));
                    a[0] += random.nextInt(3) == 0 ? random.nextInt(21) - 10 : 0;
                    break;
                case "read": a[0] = upTo(5); a[1] = ticket; a[2] = second(ticket); break;
                case "twice": a[0] = upTo(model.doubles.size()); a[1] = upTo(2); break;
                case "leaves": a[0] = ticket; a[1] = second(ticket) + upTo(1000); break;
                case "inside": a[0] = second(ticket) + upTo(1000); break;
                case "count": a[0] = upTo(4); break;
                default: break;
            }
            if (count > 0 && random.nextInt(40) == 0) {
                a[upTo(count - 1)] = random.nextBoolean() ? EDGES[upTo(EDGES.length - 1)] : upTo(70) - 5;
            }
            return a;
        }
    }

    private interface Call {
        long answer();
    }

    private static String told(Call call) {
        try {
            return String.valueOf(call.answer());
        } catch (RuntimeException e) {
            return e.getClass().getName();
        }
    }

    private static boolean runGoesWrong(int seed, Map<String, Integer> seen) {
        SlotTickets x = new SlotTickets();
        Model model = new Model();
        Player player = new Player(seed, model);
        StringBuilder run = new StringBuilder();
        for (int i = 0; i < CALLS; i++) {
            String name = i < 3 ? "slot" : player.name();
            int[] a = player.arguments(name, ARGUMENTS[List.of(NAMES).indexOf(name)]);
            String want = told(() -> model.answer(name, a));
            String got = told(() -> ask(x, name, a));
            run.append(name).append(Arrays.toString(a)).append(" -> ").append(want).append('\n');
            seen.merge(name + (want.startsWith("java") ? " " + want : ""), 1, Integer::sum);
            if (!got.equals(want)) {
                System.out.println("run " + seed + ":\n" + run + "but answered " + got);
                return true;
            }
        }
        return false;
    }

    public static void main(String[] args) {
        Map<String, Integer> seen = new TreeMap<>();
        int wrong = 0;
        for (int seed = 0; seed < RUNS && wrong < 3; seed++) {
            wrong += runGoesWrong(seed, seen) ? 1 : 0;
        }
        if (args.length > 0) {
            System.out.println(seen);
        }
        System.out.println(wrong == 0 ? RUNS + " runs are as due" : wrong + " runs are wrong");
        System.exit(wrong == 0 ? 0 : 1);
    }
}
