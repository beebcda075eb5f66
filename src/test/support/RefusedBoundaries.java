import java.util.concurrent.Callable;

/** For each promise with exceptions: a call that throws one leaves nothing behind that later calls could tell. */
final class RefusedBoundaries extends Boundary {
    private static final String NOTHING = "Such a call changes nothing";
    private static final String THERE =
        "EXCEPTIONS: IndexOutOfBoundsException: there is no such slot, ticket, kind, reader, place";
    private static final String ORDER = "IllegalStateException, then IllegalArgumentException, as told";

    private interface World {
        void make(SlotTickets x);
    }

    static void all() {
        ofSlots();
        ofSales();
        ofTexts();
        ofTickets();
        ofDoors();
        inFullObjects();
    }

    /** Something of everything, with room left, unread signs, and what readers let in since the latest join. */
    private static void busy(SlotTickets x) {
        slots(x, 5, 20, 1);
        x.over(1, 1, 2, 1, 8);
        x.sell(0, 3, 1);
        x.sell(0, 2, 2);
        x.sell(1, 9, 3);
        x.sell(2, 1, 4);
        x.waits(0, 2, 0);
        x.waits(0, 3, 1);
        x.waits(1, 9, 4);
        x.back(1);
        rules(x, "0=7,1=130,3=99,g3-15");
        type(x, "4=1");
        x.read(0, 0, 10);
        x.read(1, 0, 20);
        x.read(0, 2, 3700);
        x.join();
        x.leaves(0, 50);
        x.read(2, 0, 5);
        x.read(3, 2, 3650);
    }

    /** As many slots, tickets, requests and signs as there can be. */
    private static void full(SlotTickets x) {
        slots(x, 20, 20, 20, 1, 2, 3, 4, 5);
        sellOnes(x, 60);
        for (int i = 0; i < 30; i++) {
            x.waits(i % 8, 1 + i % 9, i % 5);
        }
        type(x, "0=99999,g00001-00001,g00001-00001,g00001-00001,g00001-00001,");
    }

    private static void note(StringBuilder told, Callable<Object> call) {
        try {
            told.append(call.call());
        } catch (Exception e) {
            told.append(e.getClass().getSimpleName());
        }
        told.append(' ');
    }

    /** What calls answer from here on: first those that only ask, then those that also change something. */
    private static String future(SlotTickets x) {
        StringBuilder told = new StringBuilder();
        asked(x, told);
        for (int reader = 0; reader < 6; reader++) {
            int r = reader;
            note(told, () -> x.read(r, 0, 100));
            note(told, () -> x.read(r, 2, 4000));
        }
        note(told, () -> x.join());
        note(told, () -> x.unit('2'));
        note(told, () -> x.rules());
        for (int ticket = 0; ticket < 4; ticket++) {
            int t = ticket;
            note(told, () -> x.leaves(t, 5000));
            note(told, () -> x.back(t));
        }
        for (int slot = 0; slot < 3; slot++) {
            int s = slot;
            note(told, () -> x.sell(s, 1, 0));
            note(told, () -> x.waits(s, 1, 0));
        }
        note(told, () -> x.slot(9));
        asked(x, told);
        return told.toString();
    }

    private static void asked(SlotTickets x, StringBuilder told) {
        for (int i = 0; i < 5; i++) {
            int k = i;
            note(told, () -> x.count(k));
            note(told, () -> x.most(k));
            note(told, () -> x.odds(k, 22, 0) + "" + x.odds(k, 22, 3));
            note(told, () -> x.given(k));
            note(told, () -> x.price(k));
            note(told, () -> x.about(k, 0) + "" + x.about(k, 1) + x.about(k, 2) + x.about(k, 3));
            note(told, () -> x.twice(k, 0) + "/" + x.twice(k, 1) + "/" + x.twice(k, 2));
            note(told, () -> x.inside(new int[] {4, 15, 50, 3650, 100000}[k]));
        }
        note(told, () -> x.whose(123453));
        note(told, () -> x.code(0, 5));
    }

    private static void same(World world, Body refused) {
        SlotTickets twin = new SlotTickets();
        world.make(twin);
        SlotTickets x = new SlotTickets();
        world.make(x);
        refused.run(x);
        is(future(twin), future(x));
    }

    private static void refused(int promise, String what, Body calls) {
        holds(promise, NOTHING, what, x -> same(RefusedBoundaries::busy, calls));
    }

    private static void ofSlots() {
        refused(2, "wrong places", x -> {
            argument(() -> x.slot(0));
            argument(() -> x.slot(21));
        });
        refused(3, "no such slot", x -> {
            index(() -> x.over(3, 1, 3, 1, 2));
            index(() -> x.over(-1, 1, 3, 1, 2));
        });
        refused(3, "each wrong number", x -> {
            argument(() -> x.over(1, 1, 0, 1, 1));
            argument(() -> x.over(1, 1, 17, 1, 1));
            argument(() -> x.over(1, -1, 3, 1, 1));
            argument(() -> x.over(1, 4, 3, 1, 1));
            argument(() -> x.over(1, 0, 3, -1, 2));
            argument(() -> x.over(1, 0, 3, 3, 2));
            argument(() -> x.over(1, 0, 3, 0, 0));
            argument(() -> x.over(1, 0, 3, 1, 1001));
        });
        refused(4, "no such slot", x -> index(() -> x.most(3)));
        refused(5, "no such slot or digit, wrong guests", x -> {
            index(() -> x.odds(3, 1, 0));
            index(() -> x.odds(0, 1, 40));
            argument(() -> x.odds(0, 29, 0));
        });
    }

    private static void ofSales() {
        refused(6, "no such slot or kind, a wrong group", x -> {
            index(() -> x.sell(3, 1, 0));
            index(() -> x.sell(1, 1, 5));
            argument(() -> x.sell(1, 0, 0));
            argument(() -> x.sell(1, -9, 0));
            argument(() -> x.sell(1, 10, 0));
        });
        refused(7, "no such ticket", x -> {
            index(() -> x.back(5));
            index(() -> x.back(-1));
        });
        refused(8, "no such slot or kind, a wrong group", x -> {
            index(() -> x.waits(3, 1, 0));
            index(() -> x.waits(1, 1, 5));
            argument(() -> x.waits(1, 0, 0));
            argument(() -> x.waits(1, 10, 0));
        });
        refused(9, "no such request", x -> index(() -> x.given(3)));
        holds(6, THERE, "a slot, a kind", x -> {
            busy(x);
            index(() -> x.sell(3, 1, 0));
            index(() -> x.sell(2, 1, 5));
        });
        holds(7, THERE, "a ticket", x -> {
            busy(x);
            is(5, x.count(1));
            index(() -> x.back(5));
        });
    }

    private static void ofTexts() {
        refused(10, "a wrong sign", x -> {
            argument(() -> x.unit(32));
            argument(() -> x.unit(127));
        });
        refused(12, "no such ticket", x -> index(() -> x.price(5)));
    }

    private static void ofTickets() {
        refused(13, "no such ticket, or nothing of this kind", x -> {
            index(() -> x.about(5, 0));
            index(() -> x.about(0, 4));
        });
        refused(14, "no such ticket or digit", x -> {
            index(() -> x.code(5, 0));
            index(() -> x.code(0, 6));
        });
        refused(21, "nothing of this kind", x -> {
            index(() -> x.count(5));
            index(() -> x.count(-1));
        });
    }

    private static void ofDoors() {
        refused(16, "no such reader or ticket, a wrong second", x -> {
            index(() -> x.read(6, 3, 7200));
            index(() -> x.read(0, 5, 7200));
            argument(() -> x.read(4, 0, -1));
            argument(() -> x.read(4, 0, 100001));
        });
        refused(18, "no such double, or nothing of this kind", x -> {
            index(() -> x.twice(1, 0));
            index(() -> x.twice(0, 3));
        });
        refused(19, "no such ticket, a wrong second", x -> {
            index(() -> x.leaves(5, 0));
            argument(() -> x.leaves(2, -1));
            argument(() -> x.leaves(2, 100001));
        });
        refused(20, "a wrong second", x -> {
            argument(() -> x.inside(-1));
            argument(() -> x.inside(100001));
        });
        holds(16, THERE, "a reader, a ticket", x -> {
            busy(x);
            index(() -> x.read(6, 0, 0));
            index(() -> x.read(0, 5, 0));
        });
    }

    private static void inFullObjects() {
        holds(2, NOTHING, "the ninth slot", x -> same(RefusedBoundaries::full, y -> state(() -> y.slot(5))));
        holds(6, NOTHING, "the 61st ticket", x -> same(RefusedBoundaries::full, y -> state(() -> y.sell(3, 1, 0))));
        holds(8, NOTHING, "the 31st request", x -> same(RefusedBoundaries::full, y -> state(() -> y.waits(0, 1, 0))));
        holds(10, NOTHING, "the 61st sign", x -> same(RefusedBoundaries::full, y -> state(() -> y.unit('1'))));
        holds(10, ORDER, "of each promise that has both", x -> {
            full(x);
            state(() -> x.slot(0));
            state(() -> x.sell(0, 0, 0));
            state(() -> x.waits(0, 0, 0));
            state(() -> x.unit(0));
        });
    }
}
