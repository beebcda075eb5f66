/** The boundary cases of promises 6 to 9: tickets that are sold and given back, and requests that wait. */
final class SaleBoundaries extends Boundary {
    private static final int NONE = -1;
    private static final int LEAST = Integer.MIN_VALUE;
    private static final int GREATEST = Integer.MAX_VALUE;

    static void all() {
        sell();
        sellRoom();
        sellWrong();
        back();
        backRefused();
        backInOrder();
        backRoom();
        backSixty();
        waits();
        waitsWrong();
        given();
    }

    private static void sell() {
        holds(6, "A ticket: its number", "the first, the second, in whatever slot", x -> {
            slots(x, 5, 5);
            is(0, x.sell(1, 1, 0));
            is(1, x.sell(0, 1, 0));
            is(2, x.sell(1, 1, 0));
        });
        holds(6, "A ticket: its number", "a number that was given back does not come again", x -> {
            x.slot(5);
            x.sell(0, 1, 0);
            x.back(0);
            is(1, x.sell(0, 1, 0));
        });
        holds(6, "TICKETS are 0 .. 59", "the last one", x -> {
            slots(x, 20, 20, 20);
            sellOnes(x, 59);
            index(() -> x.about(59, 0));
            is(59, x.sell(2, 1, 0));
            is(2, x.about(59, 0));
            index(() -> x.about(60, 0));
        });
        holds(6, "each of a slot", "a full slot does not fill another", x -> {
            slots(x, 9, 9);
            is(0, x.sell(0, 9, 0));
            is(NONE, x.sell(0, 1, 0));
            is(1, x.sell(1, 9, 0));
            is(0, x.about(0, 0));
            is(1, x.about(1, 0));
        });
        holds(6, "for a GROUP of 1 .. 9 guests", "1 and 9", x -> {
            x.slot(10);
            is(0, x.sell(0, 1, 0));
            is(1, x.sell(0, 9, 0));
            is(1, x.about(0, 1));
            is(9, x.about(1, 1));
        });
        holds(6, "of a KIND 0 .. 4", "0 and 4", x -> {
            x.slot(2);
            is(0, x.sell(0, 1, 0));
            is(1, x.sell(0, 1, 4));
            is(0, x.about(0, 2));
            is(4, x.about(1, 2));
        });
    }

    private static void sellRoom() {
        String none = "NONE if there would be more guests than the most";
        holds(6, none, "as many as the most, at once", x -> {
            x.slot(9);
            is(0, x.sell(0, 9, 0));
        });
        holds(6, none, "as many as the most, one by one, and one more", x -> {
            x.slot(2);
            is(0, x.sell(0, 1, 0));
            is(1, x.sell(0, 1, 0));
            is(NONE, x.sell(0, 1, 0));
        });
        holds(6, none, "a group that is one too large, and one that fits behind it", x -> {
            x.slot(8);
            is(NONE, x.sell(0, 9, 0));
            is(0, x.count(1));
            is(0, x.sell(0, 8, 0));
        });
        holds(6, none, "the most beyond the places", x -> {
            x.slot(1);
            noneComes(x, 0);
            is(0, x.sell(0, 9, 0));
            is(NONE, x.sell(0, 1, 0));
        });
        holds(6, none, "nothing waits or is sold by it", x -> {
            x.slot(1);
            x.sell(0, 1, 0);
            x.sell(0, 1, 0);
            is(1, x.count(1));
            is(0, x.count(2));
        });
        holds(6, "A slot's SOLD guests are those of its tickets that were not given back", "room again", x -> {
            x.slot(9);
            x.sell(0, 4, 0);
            x.sell(0, 5, 0);
            x.back(0);
            is(NONE, x.sell(0, 5, 0));
            is(2, x.sell(0, 4, 0));
            is(NONE, x.sell(0, 1, 0));
        });
        holds(6, "A slot's SOLD guests are those of its tickets that were not given back", "of those who waited", x -> {
            x.slot(9);
            x.sell(0, 9, 0);
            x.waits(0, 8, 0);
            x.back(0);
            is(NONE, x.sell(0, 2, 0));
            is(2, x.sell(0, 1, 0));
        });
        holds(6, "A slot's SOLD guests are those of its tickets that were not given back", "those who wait are not", x -> {
            x.slot(1);
            x.waits(0, 1, 0);
            is(0, x.sell(0, 1, 0));
        });
        holds(6, "never more than its most when they were sold", "the most is less than what is sold", x -> {
            x.slot(1);
            noneComes(x, 0);
            x.sell(0, 8, 0);
            x.over(0, 1, 1, 0, 1);
            is(1, x.most(0));
            is(0, x.about(0, 3));
            is(NONE, x.sell(0, 1, 0));
            noneComes(x, 0);
            is(1, x.sell(0, 1, 0));
            is(NONE, x.sell(0, 1, 0));
        });
    }

    private static void sellWrong() {
        holds(6, "IndexOutOfBoundsException: slot or kind", "no such slot", x -> {
            index(() -> x.sell(0, 1, 0));
            x.slot(1);
            index(() -> x.sell(1, 1, 0));
            index(() -> x.sell(-1, 1, 0));
            index(() -> x.sell(LEAST, 1, 0));
            index(() -> x.sell(GREATEST, 1, 0));
        });
        holds(6, "IndexOutOfBoundsException: slot or kind", "no such kind", x -> {
            x.slot(1);
            index(() -> x.sell(0, 1, -1));
            index(() -> x.sell(0, 1, 5));
            index(() -> x.sell(0, 1, LEAST));
            index(() -> x.sell(0, 1, GREATEST));
        });
        holds(6, "IndexOutOfBoundsException: slot or kind", "and a wrong group", x -> {
            x.slot(1);
            index(() -> x.sell(1, 0, 0));
            index(() -> x.sell(0, 10, 5));
        });
        holds(6, "IndexOutOfBoundsException: slot or kind", "and 60 tickets", x -> {
            slots(x, 20, 20, 20);
            sellOnes(x, 60);
            index(() -> x.sell(3, 1, 0));
            index(() -> x.sell(0, 1, 5));
        });
        holds(6, "IllegalStateException: there are 60", "the 61st, with room and without", x -> {
            slots(x, 20, 20, 20, 20);
            sellOnes(x, 60);
            state(() -> x.sell(3, 1, 0));
            state(() -> x.sell(0, 1, 0));
            is(60, x.count(1));
        });
        holds(6, "IllegalStateException: there are 60", "one that was given back is still there", x -> {
            slots(x, 20, 20, 20);
            sellOnes(x, 60);
            is(0, x.back(30));
            state(() -> x.sell(1, 1, 0));
        });
        holds(6, "IllegalStateException, then IllegalArgumentException, as told", "the 61st, a wrong group", x -> {
            slots(x, 20, 20, 20);
            sellOnes(x, 60);
            state(() -> x.sell(0, 0, 0));
            state(() -> x.sell(0, 10, 0));
        });
        holds(6, "IllegalArgumentException: n is not 1 .. 9", "0, 10 and beyond", x -> {
            x.slot(20);
            argument(() -> x.sell(0, 0, 0));
            argument(() -> x.sell(0, 10, 0));
            argument(() -> x.sell(0, -1, 0));
            argument(() -> x.sell(0, LEAST, 0));
            argument(() -> x.sell(0, GREATEST, 0));
            is(0, x.count(1));
        });
        holds(6, "IllegalArgumentException: n is not 1 .. 9", "of a full slot", x -> {
            x.slot(1);
            x.sell(0, 1, 0);
            argument(() -> x.sell(0, 0, 0));
            argument(() -> x.sell(0, 10, 0));
        });
    }

    private static void back() {
        String get = "A ticket is given back: how many that wait get one";
        holds(7, get, "none waits", x -> {
            x.slot(1);
            x.sell(0, 1, 0);
            is(0, x.back(0));
            is(1, x.about(0, 3));
        });
        holds(7, get, "one", x -> {
            x.slot(1);
            x.sell(0, 1, 0);
            x.waits(0, 1, 0);
            is(1, x.back(0));
        });
        holds(7, get, "all of nine", x -> {
            x.slot(9);
            x.sell(0, 9, 0);
            for (int i = 0; i < 9; i++) {
                x.waits(0, 1, 0);
            }
            is(9, x.back(0));
            is(10, x.count(1));
            is(0, x.count(2));
        });
        holds(7, get, "those who got one before get no second one", x -> {
            x.slot(2);
            x.sell(0, 1, 0);
            x.sell(0, 1, 0);
            x.waits(0, 1, 0);
            is(1, x.back(0));
            is(0, x.back(1));
            is(3, x.count(1));
        });
        holds(7, get, "a ticket that was got by waiting", x -> {
            x.slot(1);
            x.sell(0, 1, 0);
            x.waits(0, 1, 0);
            x.waits(0, 1, 0);
            is(1, x.back(0));
            is(1, x.back(1));
            is(2, x.given(1));
        });
        holds(7, "IndexOutOfBoundsException", "no such ticket", x -> {
            x.slot(1);
            index(() -> x.back(0));
            x.sell(0, 1, 0);
            index(() -> x.back(1));
            index(() -> x.back(-1));
            index(() -> x.back(60));
            index(() -> x.back(LEAST));
            index(() -> x.back(GREATEST));
        });
    }

    private static void backRefused() {
        holds(7, "NONE if it was given back before", "twice", x -> {
            x.slot(1);
            x.sell(0, 1, 0);
            is(0, x.back(0));
            is(NONE, x.back(0));
            is(1, x.about(0, 3));
        });
        holds(7, "NONE if it was given back before", "nobody gets one by it, and no room is made", x -> {
            x.slot(3);
            x.sell(0, 1, 0);
            x.back(0);
            x.waits(0, 1, 0);
            is(NONE, x.back(0));
            is(NONE, x.given(0));
            x.sell(0, 3, 0);
            is(NONE, x.sell(0, 1, 0));
        });
        holds(7, "or let in by a reader", "by each reader, joined or not", x -> {
            x.slot(6);
            for (int reader = 0; reader < 6; reader++) {
                x.sell(0, 1, 0);
                is(1, x.read(reader, reader, 0));
                is(NONE, x.back(reader));
            }
            x.join();
            for (int ticket = 0; ticket < 6; ticket++) {
                is(NONE, x.back(ticket));
                is(0, x.about(ticket, 3));
            }
        });
        holds(7, "or let in by a reader", "its place stays taken, and those who wait get nothing", x -> {
            x.slot(1);
            x.sell(0, 1, 0);
            x.waits(0, 1, 0);
            x.read(0, 0, 900);
            is(NONE, x.back(0));
            is(NONE, x.given(0));
            is(NONE, x.sell(0, 1, 0));
        });
        holds(7, "or let in by a reader", "gone out since", x -> {
            x.slot(1);
            x.sell(0, 1, 0);
            x.read(0, 0, 0);
            x.join();
            x.leaves(0, 1);
            is(NONE, x.back(0));
        });
        holds(7, "or let in by a reader", "too early or too late is not let in", x -> {
            slots(x, 1, 1);
            x.sell(1, 1, 0);
            is(3, x.read(0, 0, 3599));
            is(4, x.read(0, 0, 4501));
            is(0, x.back(0));
        });
        holds(7, "or let in by a reader", "another ticket was let in", x -> {
            x.slot(2);
            x.sell(0, 1, 0);
            x.sell(0, 1, 0);
            x.read(0, 0, 0);
            is(0, x.back(1));
        });
    }

    private static void backInOrder() {
        String inOrder = "when a ticket is given back, those that wait for its slot are gone through in order";
        holds(7, inOrder, "the first of equal ones", x -> {
            x.slot(1);
            x.sell(0, 1, 0);
            x.waits(0, 1, 3);
            x.waits(0, 1, 4);
            is(1, x.back(0));
            is(1, x.given(0));
            is(NONE, x.given(1));
            is(3, x.about(1, 2));
        });
        holds(7, inOrder, "tickets are numbered in that order", x -> {
            x.slot(3);
            x.sell(0, 3, 0);
            x.waits(0, 1, 0);
            x.waits(0, 1, 0);
            x.waits(0, 1, 0);
            is(3, x.back(0));
            is(1, x.given(0));
            is(2, x.given(1));
            is(3, x.given(2));
        });
        holds(7, inOrder, "the first and the last of thirty", x -> {
            slots(x, 2, 2);
            x.sell(0, 2, 0);
            x.waits(0, 1, 0);
            for (int i = 1; i < 29; i++) {
                x.waits(1, 1, 0);
            }
            x.waits(0, 1, 0);
            is(2, x.back(0));
            is(1, x.given(0));
            is(2, x.given(29));
            is(28, x.count(2));
        });
        holds(7, inOrder, "those who wait for another slot get nothing, though it has room", x -> {
            slots(x, 1, 1);
            x.sell(0, 1, 0);
            x.waits(1, 1, 0);
            is(0, x.back(0));
            is(NONE, x.given(0));
        });
        holds(7, inOrder, "room made in another way helps nobody before", x -> {
            x.slot(1);
            x.sell(0, 1, 0);
            x.waits(0, 1, 0);
            noneComes(x, 0);
            is(NONE, x.given(0));
            is(1, x.sell(0, 1, 0));
            is(NONE, x.given(0));
            is(1, x.back(0));
            is(2, x.given(0));
        });
    }

    private static void backRoom() {
        String room = "and each that has room then gets a ticket";
        holds(7, room, "a group that is one too large is gone past", x -> {
            x.slot(9);
            x.sell(0, 4, 0);
            x.sell(0, 5, 0);
            x.waits(0, 5, 0);
            x.waits(0, 4, 0);
            is(1, x.back(0));
            is(NONE, x.given(0));
            is(2, x.given(1));
        });
        holds(7, room, "the room that is left by those ahead", x -> {
            x.slot(9);
            x.sell(0, 9, 0);
            x.waits(0, 6, 0);
            x.waits(0, 4, 0);
            x.waits(0, 3, 0);
            x.waits(0, 1, 0);
            is(2, x.back(0));
            is(1, x.given(0));
            is(NONE, x.given(1));
            is(2, x.given(2));
            is(NONE, x.given(3));
        });
        holds(7, room, "one that was gone past has room at a later time", x -> {
            x.slot(9);
            x.sell(0, 4, 0);
            x.sell(0, 5, 0);
            x.waits(0, 9, 0);
            is(0, x.back(0));
            is(1, x.back(1));
            is(2, x.given(0));
        });
        holds(7, room, "the most as it is then, more than before", x -> {
            x.slot(1);
            x.sell(0, 1, 0);
            x.waits(0, 9, 0);
            noneComes(x, 0);
            is(1, x.back(0));
            is(9, x.about(1, 1));
        });
        holds(7, room, "the most as it is then, less than what is sold", x -> {
            x.slot(1);
            noneComes(x, 0);
            x.sell(0, 7, 0);
            x.sell(0, 1, 0);
            x.sell(0, 1, 0);
            x.waits(0, 1, 0);
            x.over(0, 1, 1, 0, 1);
            is(0, x.back(1));
            is(0, x.back(2));
            is(1, x.back(0));
        });
    }

    private static void backSixty() {
        String sixty = "(as long as there are less than 60)";
        holds(7, sixty, "59 tickets: one more, and no second one", x -> {
            slots(x, 20, 20, 20);
            sellOnes(x, 58);
            x.sell(2, 2, 0);
            x.waits(2, 1, 0);
            x.waits(2, 1, 0);
            is(1, x.back(58));
            is(59, x.given(0));
            is(NONE, x.given(1));
            is(1, x.count(2));
        });
        holds(7, sixty, "60 tickets: it is given back, but none gets one", x -> {
            slots(x, 20, 20, 20);
            sellOnes(x, 60);
            x.waits(0, 1, 0);
            is(0, x.back(0));
            is(1, x.about(0, 3));
            is(NONE, x.given(0));
            is(60, x.count(1));
            is(1, x.count(2));
        });
    }

    private static void waits() {
        holds(8, "A request waits: its number", "the first and the last", x -> {
            x.slot(1);
            for (int i = 0; i < 30; i++) {
                is(i, x.waits(0, 1, 0));
            }
        });
        holds(8, "A request waits: its number", "it waits though there is room", x -> {
            x.slot(20);
            is(0, x.waits(0, 1, 0));
            is(0, x.count(1));
            is(1, x.count(2));
        });
        holds(8, "WAITING: requests of a slot for a group, with a kind, in order", "the least and the greatest", x -> {
            slots(x, 1, 10);
            x.sell(1, 9, 2);
            x.sell(1, 1, 2);
            is(0, x.waits(1, 1, 0));
            is(1, x.waits(1, 9, 4));
            x.back(1);
            x.back(0);
            is("1 1 0", x.about(2, 0) + " " + x.about(2, 1) + " " + x.about(2, 2));
            is("1 9 4", x.about(3, 0) + " " + x.about(3, 1) + " " + x.about(3, 2));
        });
        holds(8, "at most 30 in all", "of several slots together", x -> {
            slots(x, 1, 1, 1);
            for (int i = 0; i < 30; i++) {
                x.waits(i % 3, 1, 0);
            }
            state(() -> x.waits(0, 1, 0));
            state(() -> x.waits(1, 1, 0));
            state(() -> x.waits(2, 1, 0));
        });
    }

    private static void waitsWrong() {
        holds(8, "IndexOutOfBoundsException: slot or kind", "no such slot", x -> {
            index(() -> x.waits(0, 1, 0));
            x.slot(1);
            index(() -> x.waits(1, 1, 0));
            index(() -> x.waits(-1, 1, 0));
            index(() -> x.waits(LEAST, 1, 0));
            index(() -> x.waits(GREATEST, 1, 0));
        });
        holds(8, "IndexOutOfBoundsException: slot or kind", "no such kind", x -> {
            x.slot(1);
            index(() -> x.waits(0, 1, -1));
            index(() -> x.waits(0, 1, 5));
            index(() -> x.waits(0, 1, LEAST));
            index(() -> x.waits(0, 1, GREATEST));
        });
        holds(8, "IndexOutOfBoundsException: slot or kind", "and a wrong group, or 30 requests", x -> {
            x.slot(1);
            index(() -> x.waits(1, 0, 0));
            index(() -> x.waits(0, 10, -1));
            for (int i = 0; i < 30; i++) {
                x.waits(0, 1, 0);
            }
            index(() -> x.waits(1, 1, 0));
            index(() -> x.waits(0, 1, 5));
        });
        holds(8, "IllegalStateException: there were 30", "the 31st", x -> {
            x.slot(1);
            for (int i = 0; i < 30; i++) {
                x.waits(0, 1, 0);
            }
            state(() -> x.waits(0, 1, 0));
            is(30, x.count(2));
        });
        holds(8, "IllegalStateException: there were 30", "though one of them waits no more", x -> {
            x.slot(1);
            x.sell(0, 1, 0);
            for (int i = 0; i < 30; i++) {
                x.waits(0, 1, 0);
            }
            x.back(0);
            is(29, x.count(2));
            state(() -> x.waits(0, 1, 0));
        });
        holds(8, "IllegalStateException, then IllegalArgumentException, as told", "the 31st, a wrong group", x -> {
            x.slot(1);
            for (int i = 0; i < 30; i++) {
                x.waits(0, 1, 0);
            }
            state(() -> x.waits(0, 0, 0));
            state(() -> x.waits(0, 10, 0));
        });
        holds(8, "IllegalArgumentException: n", "0, 10 and beyond", x -> {
            x.slot(1);
            argument(() -> x.waits(0, 0, 0));
            argument(() -> x.waits(0, 10, 0));
            argument(() -> x.waits(0, -1, 0));
            argument(() -> x.waits(0, LEAST, 0));
            argument(() -> x.waits(0, GREATEST, 0));
            is(0, x.count(2));
        });
    }

    private static void given() {
        holds(9, "The ticket that a request got", "the least and the greatest number", x -> {
            slots(x, 20, 20, 20);
            x.sell(0, 1, 0);
            x.waits(0, 1, 0);
            x.back(0);
            is(1, x.given(0));
            sellOnes(x, 19);
            for (int i = 21; i < 59; i++) {
                x.sell(i < 41 ? 1 : 2, 1, 0);
            }
            x.waits(2, 1, 0);
            x.back(58);
            is(59, x.given(1));
        });
        holds(9, "The ticket that a request got", "given back since", x -> {
            x.slot(1);
            x.sell(0, 1, 0);
            x.waits(0, 1, 0);
            x.back(0);
            x.back(1);
            is(1, x.given(0));
        });
        holds(9, "NONE", "it still waits", x -> {
            x.slot(1);
            x.sell(0, 1, 0);
            x.waits(0, 2, 0);
            is(NONE, x.given(0));
            x.back(0);
            is(NONE, x.given(0));
        });
        holds(9, "IndexOutOfBoundsException: there is no such request", "-1, the next one, and beyond", x -> {
            index(() -> x.given(0));
            x.slot(1);
            for (int i = 0; i < 30; i++) {
                int next = i + 1;
                x.waits(0, 1, 0);
                index(() -> x.given(next));
            }
            is(NONE, x.given(29));
            index(() -> x.given(-1));
            index(() -> x.given(30));
            index(() -> x.given(LEAST));
            index(() -> x.given(GREATEST));
        });
    }
}
