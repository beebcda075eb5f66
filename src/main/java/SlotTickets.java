import java.util.Arrays;

/** Tickets for slots of time; the numbered promises of DOC.md say what each call answers. */
public final class SlotTickets {
    public static final int NONE = -1;

    private static final int SLOTS = 8;
    private static final int MOST_PLACES = 20;
    private static final int MOST_ABOVE_PLACES = 8;
    private static final int MOST_BELOW = 16;
    private static final int MOST_RISK_BELOW = 1000;
    private static final int TICKETS = 60;
    private static final int REQUESTS = 30;
    private static final int KINDS = 5;
    private static final int MOST_GROUP = 9;
    private static final int SIGNS = 60;
    private static final int FIRST_SIGN = 33;
    private static final int LAST_SIGN = 126;
    private static final int READERS = 6;
    private static final int CODE_DIGITS = 6;
    private static final int LAST_CODE = 999999;
    private static final int LAST_SECOND = 100000;
    private static final int SECONDS_OF_SLOT = 3600;
    private static final int SECONDS_OPEN = 900;

    private final Slots slots = new Slots();
    private final Tickets tickets = new Tickets();
    private final Requests requests = new Requests();
    private final Chances chances = new Chances();
    private final Tariff tariff = new Tariff();
    private final Doors doors = new Doors();

    public SlotTickets() {
    }

    public int slot(int places) throws IllegalStateException, IllegalArgumentException {
        if (slots.made >= SLOTS) {
            throw new IllegalStateException("there are eight slots");
        }
        if (places < 1 || places > MOST_PLACES) {
            throw new IllegalArgumentException("places are 1 to 20");
        }
        return slots.open(places);
    }

    public void over(int slot, int above, int below, int riskAbove, int riskBelow)
            throws IndexOutOfBoundsException, IllegalArgumentException {
        needSlot(slot);
        needShare(above, below, MOST_BELOW);
        needShare(riskAbove, riskBelow, MOST_RISK_BELOW);
        slots.above[slot] = above;
        slots.below[slot] = below;
        slots.most[slot] = chances.greatestSafe(slots.places[slot], above, below, riskAbove, riskBelow);
    }

    public int most(int slot) throws IndexOutOfBoundsException {
        needSlot(slot);
        return slots.most[slot];
    }

    public int odds(int slot, int n, int k) throws IndexOutOfBoundsException, IllegalArgumentException {
        needSlot(slot);
        if (k < 0 || k >= Chances.DIGITS) {
            throw new IndexOutOfBoundsException("digits are 0 to 39");
        }
        if (n < 0 || n > MOST_PLACES + MOST_ABOVE_PLACES) {
            throw new IllegalArgumentException("guests are 0 to 28");
        }
        chances.invite(n, slots.places[slot], slots.above[slot], slots.below[slot]);
        return chances.digitOfTooMany(k);
    }

    public int sell(int slot, int n, int kind)
            throws IndexOutOfBoundsException, IllegalStateException, IllegalArgumentException {
        needSlot(slot);
        needKind(kind);
        if (tickets.made >= TICKETS) {
            throw new IllegalStateException("there are 60 tickets");
        }
        needGroup(n);
        return slots.hasRoom(slot, n) ? issue(slot, n, kind) : NONE;
    }

    public int back(int ticket) throws IndexOutOfBoundsException {
        needTicket(ticket);
        if (tickets.returned[ticket] || doors.anyLetIn(ticket)) {
            return NONE;
        }
        int slot = tickets.slot[ticket];
        tickets.returned[ticket] = true;
        slots.sold[slot] -= tickets.guests[ticket];
        return serveWaiting(slot);
    }

    public int waits(int slot, int n, int kind)
            throws IndexOutOfBoundsException, IllegalStateException, IllegalArgumentException {
        needSlot(slot);
        needKind(kind);
        if (requests.made >= REQUESTS) {
            throw new IllegalStateException("there were 30 requests");
        }
        needGroup(n);
        return requests.add(slot, n, kind);
    }

    public int given(int request) throws IndexOutOfBoundsException {
        if (request < 0 || request >= requests.made) {
            throw new IndexOutOfBoundsException("no such request");
        }
        return requests.ticket[request];
    }

    public int unit(int sign) throws IllegalStateException, IllegalArgumentException {
        if (tariff.length >= SIGNS) {
            throw new IllegalStateException("there are 60 signs");
        }
        if (sign < FIRST_SIGN || sign > LAST_SIGN) {
            throw new IllegalArgumentException("signs are 33 to 126");
        }
        return tariff.collect(sign);
    }

    public int rules() {
        return tariff.adopt();
    }

    public int price(int ticket) throws IndexOutOfBoundsException {
        needTicket(ticket);
        return tariff.cost(tickets.guests[ticket], tickets.kind[ticket]);
    }

    public int about(int ticket, int what) throws IndexOutOfBoundsException {
        needTicket(ticket);
        switch (what) {
            case 0:
                return tickets.slot[ticket];
            case 1:
                return tickets.guests[ticket];
            case 2:
                return tickets.kind[ticket];
            case 3:
                return tickets.returned[ticket] ? 1 : 0;
            default:
                throw new IndexOutOfBoundsException("what is 0 to 3");
        }
    }

    public int code(int ticket, int i) throws IndexOutOfBoundsException {
        needTicket(ticket);
        if (i < 0 || i >= CODE_DIGITS) {
            throw new IndexOutOfBoundsException("a code has digits 0 to 5");
        }
        return digitOf(tickets.codeOf(ticket), CODE_DIGITS - 1 - i);
    }

    public int whose(int code) {
        // A check that is wrong can be no ticket's, so the search is spared.
        if (code < 0 || code > LAST_CODE || code % 10 != checkOf(code / 10)) {
            return NONE;
        }
        return tickets.find(code);
    }

    public int read(int reader, int ticket, int second)
            throws IndexOutOfBoundsException, IllegalArgumentException {
        if (reader < 0 || reader >= READERS) {
            throw new IndexOutOfBoundsException("readers are 0 to 5");
        }
        needTicket(ticket);
        needSecond(second);
        int start = SECONDS_OF_SLOT * tickets.slot[ticket];
        if (doors.hasLetIn(reader, ticket)) {
            return 0;
        }
        if (tickets.returned[ticket]) {
            return 2;
        }
        if (second < start) {
            return 3;
        }
        if (second - start > SECONDS_OPEN) {
            return 4;
        }
        doors.letIn(reader, ticket, second);
        return 1;
    }

    public int join() {
        return doors.joinAll();
    }

    public int twice(int k, int what) throws IndexOutOfBoundsException {
        if (k < 0 || k >= doors.found) {
            throw new IndexOutOfBoundsException("no such double");
        }
        int entry = doors.doubles[k];
        switch (what) {
            case 0:
                return Doors.ticketOf(entry);
            case 1:
                return Doors.readerOf(entry);
            case 2:
                return doors.seconds[entry];
            default:
                throw new IndexOutOfBoundsException("what is 0 to 2");
        }
    }

    public boolean leaves(int ticket, int second) throws IndexOutOfBoundsException, IllegalArgumentException {
        needTicket(ticket);
        needSecond(second);
        return doors.letOut(ticket, second);
    }

    public int inside(int second) throws IllegalArgumentException {
        needSecond(second);
        int guests = 0;
        for (int ticket = 0; ticket < tickets.made; ticket++) {
            if (doors.holds(ticket, second)) {
                guests += tickets.guests[ticket];
            }
        }
        return guests;
    }

    public int count(int what) throws IndexOutOfBoundsException {
        switch (what) {
            case 0:
                return slots.made;
            case 1:
                return tickets.made;
            case 2:
                return requests.made - requests.served;
            case 3:
                return tariff.clauses;
            case 4:
                return tariff.length;
            default:
                throw new IndexOutOfBoundsException("what is 0 to 4");
        }
    }

    private int issue(int slot, int guests, int kind) {
        slots.sold[slot] += guests;
        return tickets.add(slot, guests, kind);
    }

    private int serveWaiting(int slot) {
        int served = 0;
        for (int request = 0; request < requests.made && tickets.made < TICKETS; request++) {
            if (requests.waitsFor(request, slot) && slots.hasRoom(slot, requests.guests[request])) {
                requests.settle(request, issue(slot, requests.guests[request], requests.kind[request]));
                served++;
            }
        }
        return served;
    }

    private void needSlot(int slot) {
        if (slot < 0 || slot >= slots.made) {
            throw new IndexOutOfBoundsException("no such slot");
        }
    }

    private void needTicket(int ticket) {
        if (ticket < 0 || ticket >= tickets.made) {
            throw new IndexOutOfBoundsException("no such ticket");
        }
    }

    private static void needKind(int kind) {
        if (kind < 0 || kind >= KINDS) {
            throw new IndexOutOfBoundsException("kinds are 0 to 4");
        }
    }

    private static void needGroup(int guests) {
        if (guests < 1 || guests > MOST_GROUP) {
            throw new IllegalArgumentException("a group has 1 to 9 guests");
        }
    }

    private static void needSecond(int second) {
        if (second < 0 || second > LAST_SECOND) {
            throw new IllegalArgumentException("seconds are 0 to 100000");
        }
    }

    private static void needShare(int above, int below, int mostBelow) {
        if (below < 1 || below > mostBelow || above < 0 || above > below) {
            throw new IllegalArgumentException("no such share");
        }
    }

    private static int checkOf(int number) {
        int sum = 3 * digitOf(number, 4) + 7 * digitOf(number, 3) + digitOf(number, 2)
                + 3 * digitOf(number, 1) + 7 * digitOf(number, 0);
        return (10 - sum % 10) % 10;
    }

    private static int digitOf(long number, int place) {
        long rest = number;
        for (int i = 0; i < place; i++) {
            rest /= 10;
        }
        return (int) (rest % 10);
    }

    private static final class Slots {
        private final int[] places = new int[SLOTS];
        private final int[] above = new int[SLOTS];
        private final int[] below = new int[SLOTS];
        // Kept, since only over() changes it but every sale asks for it.
        private final int[] most = new int[SLOTS];
        private final int[] sold = new int[SLOTS];
        private int made;

        int open(int count) {
            int slot = made;
            places[slot] = count;
            above[slot] = 1;
            below[slot] = 1;
            // All come and no risk is borne, so one guest above the places is too many for sure.
            most[slot] = count;
            made++;
            return slot;
        }

        boolean hasRoom(int slot, int guests) {
            return sold[slot] + guests <= most[slot];
        }
    }

    private static final class Tickets {
        private final int[] slot = new int[TICKETS];
        private final int[] guests = new int[TICKETS];
        private final int[] kind = new int[TICKETS];
        private final boolean[] returned = new boolean[TICKETS];
        private int made;

        int add(int ofSlot, int group, int ofKind) {
            int ticket = made;
            slot[ticket] = ofSlot;
            guests[ticket] = group;
            kind[ticket] = ofKind;
            made++;
            return ticket;
        }

        int codeOf(int ticket) {
            int number = (7919 * ticket + 31 * slot[ticket] + 12345) % 100000;
            return number * 10 + checkOf(number);
        }

        int find(int wanted) {
            for (int ticket = 0; ticket < made; ticket++) {
                if (codeOf(ticket) == wanted) {
                    return ticket;
                }
            }
            return NONE;
        }
    }

    private static final class Requests {
        private final int[] slot = new int[REQUESTS];
        private final int[] guests = new int[REQUESTS];
        private final int[] kind = new int[REQUESTS];
        private final int[] ticket = new int[REQUESTS];
        private int made;
        private int served;

        int add(int ofSlot, int group, int ofKind) {
            int request = made;
            slot[request] = ofSlot;
            guests[request] = group;
            kind[request] = ofKind;
            ticket[request] = NONE;
            made++;
            return request;
        }

        boolean waitsFor(int request, int wanted) {
            return slot[request] == wanted && ticket[request] == NONE;
        }

        void settle(int request, int got) {
            ticket[request] = got;
            served++;
        }
    }

    /**
     * Exact numbers of the ways in which guests come. A row is a number in limbs of nine decimal digits, the
     * last limb first: 16 to the power of 28, times a risk of 1000, has 37 digits, so five limbs never overflow.
     */
    private static final class Chances {
        private static final int DIGITS = 40;
        private static final int LIMBS = 5;
        private static final int LIMB_DIGITS = 9;
        private static final long BASE = 1000000000L;
        // Rows 0 to 20 are for so many that come; once too many have come, no later guest changes that.
        private static final int TOO_MANY = MOST_PLACES + 1;
        private static final int ALL = MOST_PLACES + 2;

        private final long[] ways = new long[(MOST_PLACES + 3) * LIMBS];

        int greatestSafe(int places, int above, int below, int riskAbove, int riskBelow) {
            invite(places, places, above, below);
            int safe = places;
            for (int n = places + 1; n <= places + MOST_ABOVE_PLACES; n++) {
                inviteOne(places, above, below);
                if (isAbove(riskAbove, riskBelow)) {
                    break;
                }
                safe = n;
            }
            return safe;
        }

        void invite(int guests, int places, int above, int below) {
            Arrays.fill(ways, 0L);
            ways[0] = 1;
            ways[ALL * LIMBS] = 1;
            for (int i = 0; i < guests; i++) {
                inviteOne(places, above, below);
            }
        }

        int digitOfTooMany(int k) {
            return digitOf(ways[TOO_MANY * LIMBS + k / LIMB_DIGITS], k % LIMB_DIGITS);
        }

        private void inviteOne(int places, int above, int below) {
            mix(ALL, below, ALL, 0);
            mix(TOO_MANY, below, places, above);
            // From above downwards, so that the row below is still the one before this guest.
            for (int come = places; come > 0; come--) {
                mix(come, below - above, come - 1, above);
            }
            mix(0, below - above, 0, 0);
        }

        private void mix(int row, int times, int other, int otherTimes) {
            long carry = 0;
            for (int i = 0; i < LIMBS; i++) {
                long limb = ways[row * LIMBS + i] * times + ways[other * LIMBS + i] * otherTimes + carry;
                ways[row * LIMBS + i] = limb % BASE;
                carry = limb / BASE;
            }
        }

        /**
         * The sign of the difference of the two products tells it, without a row for either of them. The carry is
         * 0 or -1 in the end, since either product fits into the limbs.
         */
        private boolean isAbove(int riskAbove, int riskBelow) {
            long carry = 0;
            boolean differs = false;
            for (int i = 0; i < LIMBS; i++) {
                long limb = ways[TOO_MANY * LIMBS + i] * riskBelow - ways[ALL * LIMBS + i] * riskAbove + carry;
                carry = Math.floorDiv(limb, BASE);
                differs = differs || Math.floorMod(limb, BASE) != 0;
            }
            return carry >= 0 && differs;
        }
    }

    /** The collected text, the rules in force, and the clauses of a text that is being read. */
    private static final class Tariff {
        private static final int MOST_CLAUSES = 8;
        private static final int MOST_DIGITS = 5;
        private static final int MOST_PRICE = 99999;
        private static final int MOST_PERCENT = 100;

        // What the sign ahead leaves open.
        private static final int AT_CLAUSE = 0;
        private static final int AT_EQUALS = 1;
        private static final int IN_PRICE = 2;
        private static final int IN_GROUP = 3;
        private static final int IN_PERCENT = 4;

        private final int[] text = new int[SIGNS];
        private int length;

        private final int[] prices = new int[KINDS];
        // By guests: the greatest percentage that a group of so many gets.
        private final int[] percents = new int[MOST_GROUP + 1];
        private int clauses;

        private final int[] newPrices = new int[KINDS];
        private final int[] newPercents = new int[MOST_GROUP + 1];
        private int newClauses;
        private int state;
        private int subject;
        private int number;
        private int digits;

        int collect(int sign) {
            text[length] = sign;
            length++;
            return length;
        }

        int cost(int guests, int kind) {
            int full = guests * prices[kind];
            return full - full * percents[guests] / 100;
        }

        int adopt() {
            int signs = length;
            length = 0;
            int wrong = firstWrong(signs);
            if (wrong != NONE) {
                return -1 - wrong;
            }
            System.arraycopy(newPrices, 0, prices, 0, KINDS);
            System.arraycopy(newPercents, 0, percents, 0, MOST_GROUP + 1);
            clauses = newClauses;
            return clauses;
        }

        private int firstWrong(int signs) {
            Arrays.fill(newPrices, 0);
            Arrays.fill(newPercents, 0);
            newClauses = 0;
            state = AT_CLAUSE;
            if (signs == 0) {
                return NONE;
            }
            for (int place = 0; place < signs; place++) {
                if (!takes(text[place])) {
                    return place;
                }
            }
            return endsClause() ? NONE : signs;
        }

        private boolean takes(int sign) {
            switch (state) {
                case AT_CLAUSE:
                    return beginsClause(sign);
                case AT_EQUALS:
                    return sign == '=' && beginsNumber(IN_PRICE);
                case IN_PRICE:
                    return sign == ',' ? beginsNext() : takesDigit(sign, MOST_PRICE);
                case IN_GROUP:
                    return sign == '-' ? endsGroup() : takesGroupDigit(sign);
                default:
                    return sign == ',' ? beginsNext() : takesDigit(sign, MOST_PERCENT);
            }
        }

        private boolean beginsClause(int sign) {
            if (sign == 'g') {
                return beginsNumber(IN_GROUP);
            }
            if (sign < '0' || sign >= '0' + KINDS) {
                return false;
            }
            subject = sign - '0';
            state = AT_EQUALS;
            return true;
        }

        private boolean beginsNumber(int next) {
            state = next;
            number = 0;
            digits = 0;
            return true;
        }

        private boolean takesDigit(int sign, int greatest) {
            if (sign < '0' || sign > '9' || digits >= MOST_DIGITS) {
                return false;
            }
            number = number * 10 + sign - '0';
            digits++;
            return number <= greatest;
        }

        /** A fifth nought leaves no digit that could make a least group of it. */
        private boolean takesGroupDigit(int sign) {
            return takesDigit(sign, MOST_GROUP) && (number > 0 || digits < MOST_DIGITS);
        }

        private boolean endsGroup() {
            if (number < 1 || number > MOST_GROUP) {
                return false;
            }
            subject = number;
            return beginsNumber(IN_PERCENT);
        }

        private boolean beginsNext() {
            if (!endsClause() || newClauses >= MOST_CLAUSES) {
                return false;
            }
            state = AT_CLAUSE;
            return true;
        }

        private boolean endsClause() {
            if (state != IN_PRICE && state != IN_PERCENT || digits == 0) {
                return false;
            }
            if (state == IN_PRICE) {
                newPrices[subject] = number;
            } else {
                for (int guests = subject; guests <= MOST_GROUP; guests++) {
                    newPercents[guests] = Math.max(newPercents[guests], number);
                }
            }
            newClauses++;
            return true;
        }
    }

    /** An entry is a ticket and a reader in one number; its second never changes once it is known. */
    private static final class Doors {
        private final int[] seconds = new int[TICKETS * READERS];
        private final int[] order = new int[READERS];

        // What the latest join told: later entries must not show before the next one.
        private final int[] firstIn = new int[TICKETS];
        private final int[] doubles = new int[TICKETS * (READERS - 1)];
        private int found;

        private final int[] goneOut = new int[TICKETS];

        Doors() {
            Arrays.fill(seconds, NONE);
            Arrays.fill(firstIn, NONE);
            Arrays.fill(goneOut, NONE);
        }

        static int ticketOf(int entry) {
            return entry / READERS;
        }

        static int readerOf(int entry) {
            return entry % READERS;
        }

        boolean hasLetIn(int reader, int ticket) {
            return seconds[ticket * READERS + reader] != NONE;
        }

        boolean anyLetIn(int ticket) {
            for (int reader = 0; reader < READERS; reader++) {
                if (hasLetIn(reader, ticket)) {
                    return true;
                }
            }
            return false;
        }

        void letIn(int reader, int ticket, int second) {
            seconds[ticket * READERS + reader] = second;
        }

        int joinAll() {
            found = 0;
            for (int ticket = 0; ticket < TICKETS; ticket++) {
                int known = sortEntries(ticket);
                if (known > 0) {
                    firstIn[ticket] = seconds[order[0]];
                }
                for (int i = 1; i < known; i++) {
                    doubles[found] = order[i];
                    found++;
                }
            }
            return found;
        }

        /** Readers come in their order, so entries of one second stay in the order of their readers. */
        private int sortEntries(int ticket) {
            int known = 0;
            for (int reader = 0; reader < READERS; reader++) {
                if (hasLetIn(reader, ticket)) {
                    insertEntry(ticket * READERS + reader, known);
                    known++;
                }
            }
            return known;
        }

        private void insertEntry(int entry, int known) {
            int at = known;
            while (at > 0 && seconds[order[at - 1]] > seconds[entry]) {
                order[at] = order[at - 1];
                at--;
            }
            order[at] = entry;
        }

        boolean letOut(int ticket, int second) {
            if (!isIn(ticket, second) || goneOut[ticket] != NONE) {
                return false;
            }
            goneOut[ticket] = second;
            return true;
        }

        boolean holds(int ticket, int second) {
            return isIn(ticket, second) && (goneOut[ticket] == NONE || goneOut[ticket] > second);
        }

        private boolean isIn(int ticket, int second) {
            return firstIn[ticket] != NONE && firstIn[ticket] <= second;
        }
    }
}
